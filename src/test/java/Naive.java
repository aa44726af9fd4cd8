import java.util.ArrayList;
import java.util.List;
import java.util.NoSuchElementException;
import java.util.TreeMap;

/**
 * The document once more, in another and slower way, for comparing: texts by automata that go byte by byte,
 * HABITS by cutting them up each time, MINUTES always from copies of all.
 */
final class Naive {
    static final int NONE = -1;
    static final int HIDDEN = -1000000;

    static final class Person {
        int from = 0, along = 5, period = 20, distance = 1, habit = NONE;
        boolean turned, stares;
    }

    static final class Bell {
        int hour = 20, kind = 0, reach = 9, owes = 0, rung = 0;
    }

    static final class World {
        List<Person> persons = new ArrayList<>();
        List<Bell> bells = new ArrayList<>();
        boolean fog;
        int fogFrom = 0, fogLong = 10, fogPeriod = 60, view = 0;
        int minute;
        long x;
        // of the latest MINUTE:
        List<Integer> lookers = new ArrayList<>();
        List<Integer> seers = new ArrayList<>();
        List<Integer> ringers = new ArrayList<>();

        World copy() {
            World w = new World();
            for (Person p : persons) {
                Person q = new Person();
                q.from = p.from;
                q.along = p.along;
                q.period = p.period;
                q.distance = p.distance;
                q.habit = p.habit;
                q.turned = p.turned;
                q.stares = p.stares;
                w.persons.add(q);
            }
            for (Bell b : bells) {
                Bell c = new Bell();
                c.hour = b.hour;
                c.kind = b.kind;
                c.reach = b.reach;
                c.owes = b.owes;
                c.rung = b.rung;
                w.bells.add(c);
            }
            w.fog = fog;
            w.fogFrom = fogFrom;
            w.fogLong = fogLong;
            w.fogPeriod = fogPeriod;
            w.view = view;
            w.minute = minute;
            w.x = x;
            return w;
        }
    }

    private final StringBuilder tape = new StringBuilder();
    private final List<String> habits = new ArrayList<>();
    private World world;
    private World image;
    private final List<World> gone = new ArrayList<>();
    private final List<int[]> notes = new ArrayList<>();
    private int risk;
    private long x;

    // ---- texts ----

    int feed(int... numbers) {
        StringBuilder more = new StringBuilder();
        for (int number : numbers) {
            for (int i = 3; i >= 0; i--) {
                int one = (number >> 8 * i) & 0xff;
                if (one > 0) {
                    more.append((char) one);
                }
            }
        }
        if (tape.length() + more.length() > 160) {
            return NONE;
        }
        return tape.append(more).length();
    }

    boolean end(int n) {
        if (n < 0 || n > tape.length()) {
            return false;
        }
        tape.setLength(n);
        return true;
    }

    int fault(int sort) {
        return sort == 0 ? townFault(tape.toString(), null) : sort == 1 ? habitFault(tape.toString()) : -2;
    }

    static int least(char clause, char item) {
        return item == 'q' ? 1 : item == 'h' ? 5 : 0;
    }

    static int most(char clause, char item) {
        switch (item) {
            case 'f': return 59;
            case 'l': case 'q': case 'h': return 60;
            case 'k': return 1;
            default: return 9;
        }
    }

    static void told(World w, char clause, char item, int v) {
        if (w == null) {
            return;
        }
        if (clause == 'p') {
            Person p = w.persons.get(w.persons.size() - 1);
            if (item == 'f') p.from = v;
            if (item == 'l') p.along = v;
            if (item == 'q') p.period = v;
            if (item == 'd') p.distance = v;
        } else if (clause == 'g') {
            if (item == 'f') w.fogFrom = v;
            if (item == 'l') w.fogLong = v;
            if (item == 'q') w.fogPeriod = v;
            if (item == 'v') w.view = v;
        } else {
            Bell b = w.bells.get(w.bells.size() - 1);
            if (item == 'h') b.hour = v;
            if (item == 'k') b.kind = v;
            if (item == 'r') b.reach = v;
        }
    }

    /** State: c wants a clause, i an item or ;, n a number's first digit, d more digits (right behind one). */
    static int townFault(String s, World w) {
        int p = 0, g = 0, b = 0;
        char state = 'c', clause = 0, item = 0;
        String there = "";
        String digits = "";
        for (int at = 0; at <= s.length(); at++) {
            char c = at < s.length() ? s.charAt(at) : 0;
            if (state == 'd') {
                if (at < s.length() && c >= '0' && c <= '9') {
                    digits += c;
                    if (digits.length() == 3) {
                        return at;
                    }
                    continue;
                }
                int v = Integer.parseInt(digits);
                if (v < least(clause, item) || v > most(clause, item)) {
                    return at - 1;
                }
                told(w, clause, item, v);
                state = 'i';
            }
            if (at == s.length() || c == ' ') {
                continue;
            }
            if (state == 'c') {
                if (c == 'p' && ++p <= 6) {
                    if (w != null) w.persons.add(new Person());
                } else if (c == 'g' && ++g <= 1) {
                    if (w != null) w.fog = true;
                } else if (c == 'b' && ++b <= 2) {
                    if (w != null) w.bells.add(new Bell());
                } else {
                    return at;
                }
                clause = c;
                there = "";
                state = 'i';
            } else if (state == 'n') {
                if (c < '0' || c > '9') {
                    return at;
                }
                digits = "" + c;
                state = 'd';
            } else if (c == ';') {
                state = 'c';
            } else {
                String all = clause == 'p' ? "flqd" : clause == 'g' ? "flqv" : "hkr";
                if (all.indexOf(c) < 0 || there.indexOf(c) >= 0) {
                    return at;
                }
                item = c;
                there += c;
                state = 'n';
            }
        }
        return state == 'i' && p > 0 && b > 0 ? NONE : s.length();
    }

    /**
     * open holds what is open, innermost last: ( [ ! . A ! stays until its UNIT ends. role tells what the SUM outside
     * of all [ is: s the last of a CLAUSE, u the first of a UNIT, v the second of one, e either s or u.
     */
    static int habitFault(String s) {
        StringBuilder open = new StringBuilder();
        String state = "y";
        char role = 'e';
        int digits = 0;
        for (int at = 0; at < s.length(); at++) {
            char c = s.charAt(at);
            if (state.equals("number")) {
                if (c >= '0' && c <= '9') {
                    if (++digits > 4) {
                        return at;
                    }
                    continue;
                }
                state = "behind atom";
            }
            if (c == ' ') {
                continue;
            }
            boolean inBrackets = open.length() > 0 && open.charAt(open.length() - 1) == '[';
            if (state.equals("y")) {
                if (c != 'y') return at;
                state = ":";
            } else if (state.equals(":")) {
                if (c != ':') return at;
                state = "atom";
                role = 'e';
            } else if (state.equals("atom")) {
                if (c >= '0' && c <= '9') {
                    digits = 1;
                    state = "number";
                } else if ("thmodp".indexOf(c) >= 0) {
                    state = "behind atom";
                } else if (c == '[') {
                    if (open.length() == 6) return at;
                    open.append('[');
                    state = "atom";
                } else if ((c == '!' || c == '(') && !inBrackets && (role == 'e' || role == 'u') && unitMayBegin(s, at)) {
                    if (open.length() == 6) return at;
                    open.append(c);
                    role = 'u';
                } else {
                    return at;
                }
            } else if (state.equals("behind atom")) {
                if ("+-*/".indexOf(c) >= 0) {
                    state = "atom";
                } else if (inBrackets) {
                    if (c != ']') return at;
                    open.setLength(open.length() - 1);
                } else if ("=<>".indexOf(c) >= 0 && (role == 'e' || role == 'u')) {
                    role = 'v';
                    state = "atom";
                } else if (c == ';' && (role == 'e' || role == 's')) {
                    state = "y";
                } else if (role == 'v') {
                    closeDenials(open);
                    if (c == '&' || c == '|') {
                        role = 'u';
                        state = "atom";
                    } else if (c == '?' && open.length() == 0) {
                        role = 's';
                        state = "atom";
                    } else if (c == ')' && open.length() > 0) {
                        open.setLength(open.length() - 1);
                        closeDenials(open);
                    } else {
                        return at;
                    }
                    if (c == ')') {
                        state = "behind unit";
                    }
                } else {
                    return at;
                }
            } else {
                if (c == '&' || c == '|') {
                    role = 'u';
                    state = "atom";
                } else if (c == '?' && open.length() == 0) {
                    role = 's';
                    state = "atom";
                } else if (c == ')' && open.length() > 0) {
                    open.setLength(open.length() - 1);
                    closeDenials(open);
                } else {
                    return at;
                }
            }
        }
        boolean ended = state.equals("behind atom") || state.equals("number");
        return ended && open.length() == 0 && (role == 'e' || role == 's') ? NONE : s.length();
    }

    /** A UNIT begins behind : & | ( ! alone. */
    private static boolean unitMayBegin(String s, int at) {
        int i = at - 1;
        while (s.charAt(i) == ' ') {
            i--;
        }
        return ":&|(!".indexOf(s.charAt(i)) >= 0;
    }

    private static void closeDenials(StringBuilder open) {
        while (open.length() > 0 && open.charAt(open.length() - 1) == '!') {
            open.setLength(open.length() - 1);
        }
    }

    int text(int sort) {
        if (sort < 0 || sort > 1 || fault(sort) != NONE || sort == 1 && habits.size() == 4) {
            return NONE;
        }
        String s = tape.toString();
        tape.setLength(0);
        if (sort == 1) {
            habits.add(s);
            return habits.size() - 1;
        }
        world = new World();
        townFault(s, world);
        image = null;
        gone.clear();
        notes.clear();
        return world.persons.size();
    }

    // ---- the worth of HABITS: a text is cut at its loosest sign outside of all brackets ----

    static long worth(String habit, TreeMap<Character, Long> letters) {
        for (String clause : habit.replace(" ", "").split(";")) {
            String body = clause.substring(clause.indexOf(':') + 1);
            int q = body.indexOf('?');
            if (q < 0 || truth(body.substring(0, q), letters)) {
                return number(body.substring(q + 1), letters);
            }
        }
        return 0;
    }

    private static int lastOutside(String s, String signs) {
        int depth = 0;
        for (int i = s.length() - 1; i >= 0; i--) {
            char c = s.charAt(i);
            if (c == ')' || c == ']') depth++;
            if (c == '(' || c == '[') depth--;
            if (depth == 0 && signs.indexOf(c) >= 0) return i;
        }
        return -1;
    }

    static boolean truth(String s, TreeMap<Character, Long> letters) {
        int i = lastOutside(s, "|");
        if (i >= 0) {
            return truth(s.substring(0, i), letters) | truth(s.substring(i + 1), letters);
        }
        i = lastOutside(s, "&");
        if (i >= 0) {
            return truth(s.substring(0, i), letters) & truth(s.substring(i + 1), letters);
        }
        if (s.charAt(0) == '!') {
            return !truth(s.substring(1), letters);
        }
        if (s.charAt(0) == '(') {
            return truth(s.substring(1, s.length() - 1), letters);
        }
        i = lastOutside(s, "=<>");
        long a = number(s.substring(0, i), letters);
        long b = number(s.substring(i + 1), letters);
        return s.charAt(i) == '=' ? a == b : s.charAt(i) == '<' ? a < b : a > b;
    }

    static long number(String s, TreeMap<Character, Long> letters) {
        int i = lastOutside(s, "+-");
        if (i < 0) {
            i = lastOutside(s, "*/");
        }
        if (i >= 0) {
            long a = number(s.substring(0, i), letters);
            long b = number(s.substring(i + 1), letters);
            char c = s.charAt(i);
            long v = c == '+' ? a + b : c == '-' ? a - b : c == '*' ? a * b : b == 0 ? 0 : a / b;
            return v > 1000000 ? 1000000 : v < -1000000 ? -1000000 : v;
        }
        if (s.charAt(0) == '[') {
            return number(s.substring(1, s.length() - 1), letters);
        }
        return Character.isDigit(s.charAt(0)) ? Long.parseLong(s) : letters.get(s.charAt(0));
    }

    // ---- MINUTES ----

    static boolean on(int minute, int from, int along, int period) {
        int rest = (minute - from) % period;
        return (rest < 0 ? rest + period : rest) < along;
    }

    void pass(World w, boolean stranger) {
        w.lookers.clear();
        w.seers.clear();
        w.ringers.clear();
        boolean fog = w.fog && on(w.minute, w.fogFrom, w.fogLong, w.fogPeriod);
        for (int i = 0; i < w.persons.size(); i++) {
            Person p = w.persons.get(i);
            boolean looks;
            if (p.habit == NONE) {
                looks = on(w.minute, p.from, p.along, p.period);
            } else {
                TreeMap<Character, Long> letters = new TreeMap<>();
                int hour = w.bells.get(0).hour;
                letters.put('t', (long) w.minute);
                letters.put('h', (long) (w.minute / hour));
                letters.put('m', (long) (w.minute - w.minute / hour * hour));
                letters.put('o', (long) w.bells.get(0).owes);
                letters.put('d', (long) p.distance);
                letters.put('p', (long) i);
                looks = worth(habits.get(p.habit), letters) > 0;
            }
            looks = p.stares || looks && !p.turned;
            if (looks) {
                w.lookers.add(i);
                if (!fog || p.distance <= w.view) {
                    w.seers.add(i);
                }
            }
        }
        boolean seen = stranger || !w.seers.isEmpty();
        for (int i = 0; i < w.bells.size(); i++) {
            Bell b = w.bells.get(i);
            b.owes += due(b, w.minute);
            if (b.owes > 0 && (b.kind == 0 ? !seen : seen)) {
                b.owes--;
                b.rung++;
                w.ringers.add(i);
            }
        }
        w.minute++;
    }

    static int due(Bell b, int minute) {
        return minute % b.hour != 0 ? 0 : (minute / b.hour + 11) % 12 + 1;
    }

    boolean noPerson(int i) {
        return world == null || i < 0 || i >= world.persons.size();
    }

    boolean noBell(int i) {
        return world == null || i < 0 || i >= world.bells.size();
    }

    static boolean not(int n, int least, int most) {
        return n < least || n > most;
    }

    int person(int i, int what) {
        if (noPerson(i) || not(what, 0, 6)) {
            throw new NoSuchElementException();
        }
        Person p = world.persons.get(i);
        World w = world.copy();
        pass(w, false);
        int[] all = {p.from, p.along, p.period, p.distance, p.habit,
            w.lookers.contains(i) ? 1 : 0, w.seers.contains(i) ? 1 : 0};
        return all[what];
    }

    int bell(int i, int what) {
        if (noBell(i) || not(what, 0, 4)) {
            return NONE;
        }
        Bell b = world.bells.get(i);
        return new int[] {b.hour, b.kind, b.reach, b.owes, b.rung}[what];
    }

    int fog(int minute) {
        if (world == null || minute < 0) {
            return NONE;
        }
        return world.fog && on(minute, world.fogFrom, world.fogLong, world.fogPeriod) ? 1 : 0;
    }

    boolean set(int i, int what, int v) {
        if (noPerson(i)) {
            return false;
        }
        Person p = world.persons.get(i);
        if (what == 0 && !not(v, 0, 59)) {
            p.from = v;
        } else if (what == 1 && !not(v, 0, 60)) {
            p.along = v;
        } else if (what == 2 && !not(v, 1, 60)) {
            p.period = v;
        } else if (what == 3 && !not(v, NONE, habits.size() - 1)) {
            p.habit = v;
        } else {
            return false;
        }
        return true;
    }

    boolean risk(int v) {
        if (not(v, 0, 100)) {
            return false;
        }
        risk = v;
        return true;
    }

    boolean seed(long v) {
        x = v;
        return true;
    }

    int go(int n) {
        if (world == null || not(n, 1, 240)) {
            return NONE;
        }
        for (int i = 0; i < n; i++) {
            World before = world.copy();
            before.x = x;
            gone.add(before);
            if (gone.size() > 60) {
                gone.remove(0);
            }
            boolean stranger = false;
            if (risk > 0) {
                x = x * 6364136223846793005L + 1442695040888963407L;
                stranger = Long.remainderUnsigned(x >>> 33, 100) < risk;
            }
            pass(world, stranger);
        }
        return world.minute;
    }

    /** What BELLS owe and have rung, the MINUTE and the draws; PERSONS stay as they are set. */
    private void restore(World w) {
        world.minute = w.minute;
        for (int i = 0; i < w.bells.size(); i++) {
            world.bells.get(i).owes = w.bells.get(i).owes;
            world.bells.get(i).rung = w.bells.get(i).rung;
        }
        x = w.x;
    }

    int undo() {
        if (gone.isEmpty()) {
            return NONE;
        }
        restore(gone.remove(gone.size() - 1));
        return world.minute;
    }

    int ahead(int i, int n, int what) {
        if (noBell(i) || not(n, 1, 240) || not(what, 0, 1)) {
            return NONE;
        }
        World w = world.copy();
        int rings = 0;
        for (int k = 0; k < n; k++) {
            pass(w, false);
            rings += w.ringers.contains(i) ? 1 : 0;
        }
        return what == 0 ? w.bells.get(i).owes : rings;
    }

    int strike(int bell, int i) {
        if (noBell(bell) || i < 0) {
            return NONE;
        }
        World w = world.copy();
        List<Integer> all = new ArrayList<>();
        for (int k = 0; k < 240; k++) {
            pass(w, false);
            if (w.ringers.contains(bell)) {
                all.add(k);
            }
        }
        return i < all.size() ? all.get(i) : NONE;
    }

    int late(int bell, int n) {
        return noBell(bell) || not(n, 1, 240) ? NONE : lateOf(world.copy(), bell, n);
    }

    private int lateOf(World w, int bell, int n) {
        int sum = 0;
        for (int k = 0; k < n; k++) {
            pass(w, false);
            sum += w.bells.get(bell).owes;
        }
        return sum;
    }

    int bunch(int bell, int n) {
        if (noBell(bell) || not(n, 1, 240)) {
            return NONE;
        }
        World w = world.copy();
        StringBuilder rings = new StringBuilder();
        for (int k = 0; k < n; k++) {
            pass(w, false);
            rings.append(w.ringers.contains(bell) ? 'r' : ' ');
        }
        return longest(rings.toString(), ' ');
    }

    private static int longest(String s, char cut) {
        int most = 0;
        for (String part : s.split("" + cut)) {
            most = Math.max(most, part.length());
        }
        return most;
    }

    int ears(int person, int n) {
        if (noPerson(person) || not(n, 1, 240)) {
            return NONE;
        }
        World w = world.copy();
        int heard = 0;
        for (int k = 0; k < n; k++) {
            pass(w, false);
            for (int bell : w.ringers) {
                heard += w.persons.get(person).distance <= w.bells.get(bell).reach ? 1 : 0;
            }
        }
        return heard;
    }

    int seen(int n, int what) {
        if (world == null || not(n, 1, 240) || not(what, 0, 1)) {
            return NONE;
        }
        World w = world.copy();
        StringBuilder all = new StringBuilder();
        for (int k = 0; k < n; k++) {
            pass(w, false);
            all.append(w.seers.isEmpty() ? 'd' : 's');
        }
        return what == 0 ? all.toString().replace("d", "").length() : longest(all.toString(), 's');
    }

    int turn(int n) {
        if (world == null || not(n, 1, 240)) {
            return NONE;
        }
        int best = NONE;
        for (int bits = 0; bits < 1 << world.persons.size(); bits++) {
            World w = world.copy();
            for (int i = 0; i < w.persons.size(); i++) {
                w.persons.get(i).turned = (bits & 1 << i) != 0;
            }
            lateOf(w, 0, n);
            if (w.bells.get(0).owes == 0 && (best == NONE || Integer.bitCount(bits) < Integer.bitCount(best))) {
                best = bits;
            }
        }
        return best;
    }

    int stare(int n) {
        if (world == null || not(n, 1, 240)) {
            return NONE;
        }
        int best = NONE;
        for (int bits = 0; bits < 1 << world.persons.size(); bits++) {
            World w = world.copy();
            for (int i = 0; i < w.persons.size(); i++) {
                w.persons.get(i).stares = (bits & 1 << i) != 0;
            }
            lateOf(w, 0, n);
            boolean still = w.bells.get(0).rung == world.bells.get(0).rung;
            if (still && (best == NONE || Integer.bitCount(bits) < Integer.bitCount(best))) {
                best = bits;
            }
        }
        return best;
    }

    int lovers(int one, int other, int n, int what) {
        if (noPerson(one) || noPerson(other) || one == other || not(n, 1, 240) || not(what, 0, 1)) {
            return HIDDEN;
        }
        World w = world.copy();
        List<Integer> all = new ArrayList<>();
        for (int k = 0; k < n; k++) {
            pass(w, false);
            if (!w.lookers.contains(one) && !w.lookers.contains(other)) {
                all.add(k);
            }
        }
        return what == 1 ? all.size() : all.isEmpty() ? NONE : all.get(0);
    }

    int spoil(int n, int what) {
        if (world == null || not(n, 1, 240) || not(what, 0, 1)) {
            return NONE;
        }
        List<Integer> lates = new ArrayList<>();
        for (int i = 0; i < world.persons.size(); i++) {
            World w = world.copy();
            w.persons.get(i).turned = true;
            lates.add(lateOf(w, 0, n));
        }
        return bestOf(lates, what);
    }

    private static int bestOf(List<Integer> lates, int what) {
        int least = java.util.Collections.min(lates);
        return what == 0 ? lates.indexOf(least) : least;
    }

    int errand(int person, int n, int what) {
        if (noPerson(person) || world.persons.get(person).habit != NONE || not(n, 1, 240) || not(what, 0, 1)) {
            return NONE;
        }
        List<Integer> lates = new ArrayList<>();
        for (int from = 0; from < 60; from++) {
            World w = world.copy();
            w.persons.get(person).from = from;
            lates.add(lateOf(w, 0, n));
        }
        return bestOf(lates, what);
    }

    int note(int minute, boolean is) {
        if (world == null || not(minute, 0, 60) || notes.size() == 20) {
            return NONE;
        }
        notes.add(new int[] {minute, is ? 1 : 0});
        return notes.size();
    }

    private boolean fits(List<Boolean> rings, int first) {
        for (int[] note : notes) {
            if (rings.get(first + note[0]) != (note[1] == 1)) {
                return false;
            }
        }
        return true;
    }

    private List<Boolean> rings(World w, int n) {
        List<Boolean> all = new ArrayList<>();
        for (int k = 0; k < n; k++) {
            pass(w, false);
            all.add(w.ringers.contains(0));
        }
        return all;
    }

    private static int ith(List<Integer> all, int i) {
        return i == NONE ? all.size() : i >= 0 && i < all.size() ? all.get(i) : NONE;
    }

    int times(int i) {
        if (world == null) {
            return NONE;
        }
        World w = world.copy();
        w.minute = 0;
        for (Bell b : w.bells) {
            b.owes = 0;
        }
        List<Boolean> rings = rings(w, 540);
        List<Integer> all = new ArrayList<>();
        for (int first = 0; first <= 479; first++) {
            if (fits(rings, first)) {
                all.add(first);
            }
        }
        return ith(all, i);
    }

    int whose(int person, int i) {
        if (noPerson(person) || world.persons.get(person).habit != NONE) {
            return NONE;
        }
        List<Integer> all = new ArrayList<>();
        for (int from = 0; from < 60; from++) {
            World w = world.copy();
            w.persons.get(person).from = from;
            if (fits(rings(w, 61), 0)) {
                all.add(from);
            }
        }
        return ith(all, i);
    }

    int odds(int n) {
        if (world == null || not(n, 1, 10)) {
            return NONE;
        }
        List<World> worlds = new ArrayList<>();
        List<Long> parts = new ArrayList<>();
        worlds.add(world.copy());
        parts.add(1000000000L);
        for (int k = 0; k < n; k++) {
            List<World> nextWorlds = new ArrayList<>();
            List<Long> nextParts = new ArrayList<>();
            for (int i = 0; i < worlds.size(); i++) {
                long strange = parts.get(i) * risk / 100;
                World one = worlds.get(i).copy();
                World other = worlds.get(i).copy();
                pass(one, true);
                pass(other, false);
                nextWorlds.add(one);
                nextParts.add(strange);
                nextWorlds.add(other);
                nextParts.add(parts.get(i) - strange);
            }
            worlds = nextWorlds;
            parts = nextParts;
        }
        long sum = 0;
        for (int i = 0; i < worlds.size(); i++) {
            sum += worlds.get(i).bells.get(0).owes == 0 ? parts.get(i) : 0;
        }
        return (int) sum;
    }

    int peak(int bell, int n, int what) {
        if (noBell(bell) || not(n, 1, 240) || not(what, 0, 1)) {
            return NONE;
        }
        World w = world.copy();
        List<Integer> all = new ArrayList<>();
        for (int k = 0; k < n; k++) {
            pass(w, false);
            all.add(w.bells.get(bell).owes);
        }
        int most = java.util.Collections.max(all);
        return what == 0 ? most : all.indexOf(most) + 1;
    }

    int free(int bell) {
        for (int n = 1; !noBell(bell) && n <= 240; n++) {
            if (ahead(bell, n, 0) == 0) {
                return n;
            }
        }
        return NONE;
    }

    int alone(int person, int n) {
        if (noPerson(person) || not(n, 1, 240)) {
            return NONE;
        }
        World w = world.copy();
        int found = 0;
        for (int k = 0; k < n; k++) {
            pass(w, false);
            found += w.seers.equals(List.of(person)) ? 1 : 0;
        }
        return found;
    }

    int hour(int bell, int k) {
        if (noBell(bell) || k < 0 || k > 1000) {
            return NONE;
        }
        Bell b = world.bells.get(bell);
        int strikes = b.owes;
        int full = (world.minute + b.hour - 1) / b.hour;
        for (int i = 0; i <= k; i++) {
            strikes += due(b, (full + i) * b.hour);
        }
        return strike(bell, strikes - 1);
    }

    int veil(int n, int what) {
        if (world == null || !world.fog || not(n, 1, 240) || not(what, 0, 1)) {
            return NONE;
        }
        List<Integer> lates = new ArrayList<>();
        for (int view = 0; view <= 9; view++) {
            World w = world.copy();
            w.view = view;
            lates.add(lateOf(w, 0, n));
        }
        return bestOf(lates, what);
    }

    int image() {
        if (world == null) {
            return NONE;
        }
        image = world.copy();
        image.x = x;
        return world.minute;
    }

    int back() {
        if (image == null) {
            return NONE;
        }
        restore(image);
        gone.clear();
        return world.minute;
    }

    int count(int what) {
        if (not(what, 0, 7)) {
            return HIDDEN;
        }
        boolean no = world == null;
        int view = no ? 0 : world.fog ? world.view : NONE;
        return new int[] {no ? 0 : world.persons.size(), no ? 0 : world.bells.size(), habits.size(), tape.length(),
            no ? 0 : world.minute, view, notes.size(), gone.size()}[what];
    }
}
