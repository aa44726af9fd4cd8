import java.util.NoSuchElementException;

/**
 * A town of people who look up at hours of their own, fog, and one or two bells: a shy one rings what it
 * owes while nobody sees the tower, a vain one while somebody does. ../shared/DOC.md has the promises.
 */
public final class ShyBell {
    public static final int NONE = -1;
    public static final int HIDDEN = -1000000;

    private static final int MOST_BYTES = 160;
    private static final int MOST_PERSONS = 6;
    private static final int MOST_BELLS = 2;
    private static final int MOST_HABITS = 4;
    private static final int MOST_NESTED = 6;
    private static final int MOST_NOTED = 20;
    private static final int MOST_UNDONE = 60;
    private static final int MOST_AHEAD = 240;
    private static final int MOST_ODDS = 10;
    private static final int FROMS = 60;
    private static final int VIEWS = 10;
    private static final int FIRST_MINUTES = 480;
    private static final int LAST_NOTED = 60;
    private static final int WHOLE = 1000000000;
    private static final int EVERYBODY = (1 << MOST_PERSONS) - 1;

    private static final int FROM = 0;
    private static final int LONG = 1;
    private static final int PERIOD = 2;
    private static final int DISTANCE = 3;
    private static final int VIEW = 3;
    private static final int HOUR = 0;
    private static final int KIND = 1;
    private static final int REACH = 2;

    // Four numbers an ITEM: its letter, its least, its most, and what it is where it is not told.
    private static final int[] PERSON_ITEMS = {'f', 0, 59, 0, 'l', 0, 60, 5, 'q', 1, 60, 20, 'd', 0, 9, 1};
    private static final int[] FOG_ITEMS = {'f', 0, 59, 0, 'l', 0, 60, 10, 'q', 1, 60, 60, 'v', 0, 9, 0};
    private static final int[] BELL_ITEMS = {'h', 5, 60, 20, 'k', 0, 1, 0, 'r', 0, 9, 9};

    private final Tape tape = new Tape();
    private final Signs signs = new Signs(tape);
    private final Town town = new Town();
    private final Town toldTown = new Town();
    private final TownReader townReader = new TownReader(signs, toldTown);
    private final Habit toldHabit = new Habit(NONE);
    private final HabitReader habitReader = new HabitReader(signs, toldHabit);
    private final Habit[] habits = new Habit[MOST_HABITS];
    private int habitCount;
    private final Tower now = new Tower();
    private final Tower dawn = new Tower();
    private final Tower kept = new Tower();
    private boolean hasKept;
    private final Past past = new Past();
    private final Notes notes = new Notes();
    private final Trial trial = new Trial(town, now);
    private int strangerRisk;

    public ShyBell() {
        for (int i = 0; i < habits.length; i++) {
            habits[i] = new Habit(i);
        }
    }

    public int feed(int a, int b, int c, int d, int e) {
        int more = Tape.bytesIn(a) + Tape.bytesIn(b) + Tape.bytesIn(c) + Tape.bytesIn(d) + Tape.bytesIn(e);
        if (tape.length + more > MOST_BYTES) {
            return NONE;
        }
        tape.add(a);
        tape.add(b);
        tape.add(c);
        tape.add(d);
        tape.add(e);
        return tape.length;
    }

    public boolean end(int n) {
        if (n < 0 || n > tape.length) {
            return false;
        }
        tape.length = n;
        return true;
    }

    public int fault(int sort) {
        if (sort == 0) {
            return townReader.read();
        }
        return sort == 1 ? habitReader.read() : -2;
    }

    public int text(int sort) {
        if (sort == 0 && townReader.read() == NONE) {
            return takeTown();
        }
        return sort == 1 && habitReader.read() == NONE ? takeHabit() : NONE;
    }

    private int takeTown() {
        tape.length = 0;
        town.copy(toldTown);
        now.restart();
        past.forget();
        notes.forget();
        hasKept = false;
        return town.persons;
    }

    private int takeHabit() {
        if (habitCount < 0 || habitCount >= habits.length || habits[habitCount] == null) {
            return NONE;
        }
        tape.length = 0;
        habits[habitCount].copy(toldHabit);
        habitCount++;
        return habitCount - 1;
    }

    public int person(int person, int what) throws NoSuchElementException {
        if (!isPerson(person) || what < 0 || what > 6) {
            throw new NoSuchElementException();
        }
        if (what <= DISTANCE) {
            return town.people[person][what];
        }
        if (what == 4) {
            Habit habit = town.habits[person];
            return habit == null ? NONE : habit.number;
        }
        trial.prepare(now, 1);
        trial.step();
        return (what == 5 ? trial.looks : trial.sees) >> person & 1;
    }

    public int bell(int bell, int what) {
        if (!isBell(bell) || what < 0 || what > 4) {
            return NONE;
        }
        if (what <= REACH) {
            return town.bells[bell][what];
        }
        return what == 3 ? now.owes[bell] : now.rung[bell];
    }

    public int fog(int minute) {
        if (!hasTown() || minute < 0) {
            return NONE;
        }
        return town.isFoggy(minute) ? 1 : 0;
    }

    public boolean set(int person, int what, int v) {
        if (!isPerson(person) || what < 0 || what > 3) {
            return false;
        }
        if (what == 3) {
            return setHabit(person, v);
        }
        if (v < PERSON_ITEMS[4 * what + 1] || v > PERSON_ITEMS[4 * what + 2]) {
            return false;
        }
        town.people[person][what] = v;
        return true;
    }

    private boolean setHabit(int person, int v) {
        if (v < NONE || v >= habitCount || v >= habits.length) {
            return false;
        }
        town.habits[person] = v == NONE ? null : habits[v];
        return true;
    }

    public boolean risk(int v) {
        if (v < 0 || v > 100) {
            return false;
        }
        strangerRisk = v;
        return true;
    }

    public boolean seed(long v) {
        now.draws = v;
        return true;
    }

    public int go(int n) {
        if (!hasTown() || !isAhead(n)) {
            return NONE;
        }
        for (int i = 0; i < n; i++) {
            past.keep(now);
            int looking = town.lookers(now.minute, now.owes[0], EVERYBODY);
            int seeing = town.seers(looking, now.minute, town.near(town.view()));
            boolean stranger = strangerRisk > 0 && now.draw() < strangerRisk;
            now.pass(town, seeing != 0 || stranger);
        }
        return now.minute;
    }

    public int undo() {
        return past.restore(now) ? now.minute : NONE;
    }

    public int ahead(int bell, int n, int what) {
        if (!isBell(bell) || !isAhead(n) || what < 0 || what > 1) {
            return NONE;
        }
        trial.prepare(now, n);
        trial.run(n);
        return what == 0 ? trial.tower.owes[bell] : trial.tower.rung[bell] - now.rung[bell];
    }

    public int strike(int bell, int i) {
        if (!isBell(bell) || i < 0) {
            return NONE;
        }
        trial.prepare(now, MOST_AHEAD);
        for (int k = 0; k < MOST_AHEAD; k++) {
            trial.step();
            if (trial.tower.rung[bell] - now.rung[bell] > i) {
                return k;
            }
        }
        return NONE;
    }

    public int late(int bell, int n) {
        if (!isBell(bell) || !isAhead(n)) {
            return NONE;
        }
        trial.prepare(now, n);
        return trial.lateness(bell, n);
    }

    public int bunch(int bell, int n) {
        if (!isBell(bell) || !isAhead(n)) {
            return NONE;
        }
        trial.prepare(now, n);
        int most = 0;
        int running = 0;
        for (int k = 0; k < n; k++) {
            trial.step();
            running = (trial.rang >> bell & 1) != 0 ? running + 1 : 0;
            most = Math.max(most, running);
        }
        return most;
    }

    public int ears(int person, int n) {
        if (!isPerson(person) || !isAhead(n)) {
            return NONE;
        }
        int reaching = town.reaching(person);
        trial.prepare(now, n);
        int heard = 0;
        for (int k = 0; k < n; k++) {
            trial.step();
            heard += Integer.bitCount(trial.rang & reaching);
        }
        return heard;
    }

    public int seen(int n, int what) {
        if (!hasTown() || !isAhead(n) || what < 0 || what > 1) {
            return NONE;
        }
        trial.prepare(now, n);
        int bright = 0;
        int dark = 0;
        int darkest = 0;
        for (int k = 0; k < n; k++) {
            trial.step();
            boolean isSeen = trial.sees != 0;
            bright += isSeen ? 1 : 0;
            dark = isSeen ? 0 : dark + 1;
            darkest = Math.max(darkest, dark);
        }
        return what == 0 ? bright : darkest;
    }

    public int turn(int n) {
        if (!hasTown() || !isAhead(n)) {
            return NONE;
        }
        trial.prepare(now, n);
        for (int fewest = 0; fewest <= town.persons; fewest++) {
            for (int bits = 0; bits < 1 << town.persons; bits++) {
                if (Integer.bitCount(bits) != fewest) {
                    continue;
                }
                trial.restart();
                trial.away = bits;
                trial.run(n);
                if (trial.tower.owes[0] == 0) {
                    return bits;
                }
            }
        }
        return NONE;
    }

    public int stare(int n) {
        if (!hasTown() || !isAhead(n)) {
            return NONE;
        }
        trial.prepare(now, n);
        for (int fewest = 0; fewest <= town.persons; fewest++) {
            for (int bits = 0; bits < 1 << town.persons; bits++) {
                if (Integer.bitCount(bits) == fewest && trial.isStillUnder(bits, n)) {
                    return bits;
                }
            }
        }
        return NONE;
    }

    public int lovers(int one, int other, int n, int what) {
        if (!isPerson(one) || !isPerson(other) || one == other || !isAhead(n) || what < 0 || what > 1) {
            return HIDDEN;
        }
        int both = 1 << one | 1 << other;
        trial.prepare(now, n);
        int first = NONE;
        int meetings = 0;
        for (int k = 0; k < n; k++) {
            trial.step();
            if ((trial.looks & both) == 0) {
                first = meetings == 0 ? k : first;
                meetings++;
            }
        }
        return what == 0 ? first : meetings;
    }

    public int spoil(int n, int what) {
        if (!hasTown() || !isAhead(n) || what < 0 || what > 1) {
            return NONE;
        }
        trial.prepare(now, n);
        for (int i = 0; i < town.persons; i++) {
            trial.restart();
            trial.away = 1 << i;
            trial.offer(i, trial.lateness(0, n));
        }
        return what == 0 ? trial.best : trial.least;
    }

    public int errand(int person, int n, int what) {
        if (!isSpanPerson(person) || !isAhead(n) || what < 0 || what > 1) {
            return NONE;
        }
        trial.prepare(now, n);
        for (int from = 0; from < FROMS; from++) {
            trial.restart();
            trial.move(person, from);
            trial.offer(from, trial.lateness(0, n));
        }
        return what == 0 ? trial.best : trial.least;
    }

    public int note(int minute, boolean is) {
        if (!hasTown() || minute < 0 || minute > LAST_NOTED || notes.length >= MOST_NOTED) {
            return NONE;
        }
        notes.add(minute, is);
        return notes.length;
    }

    public int times(int i) {
        if (!hasTown() || i < NONE) {
            return NONE;
        }
        int n = FIRST_MINUTES + LAST_NOTED;
        trial.prepare(dawn, n);
        trial.run(n);
        int fitting = 0;
        for (int first = 0; first < FIRST_MINUTES; first++) {
            if (notes.fit(trial.rangAt, first)) {
                if (fitting == i) {
                    return first;
                }
                fitting++;
            }
        }
        return i == NONE ? fitting : NONE;
    }

    public int whose(int person, int i) {
        if (!isSpanPerson(person) || i < NONE) {
            return NONE;
        }
        int n = notes.furthest() + 1;
        trial.prepare(now, n);
        int fitting = 0;
        for (int from = 0; from < FROMS; from++) {
            trial.restart();
            trial.move(person, from);
            trial.run(n);
            if (notes.fit(trial.rangAt, 0)) {
                if (fitting == i) {
                    return from;
                }
                fitting++;
            }
        }
        return i == NONE ? fitting : NONE;
    }

    public int odds(int n) {
        if (!hasTown() || n < 1 || n > MOST_ODDS) {
            return NONE;
        }
        trial.prepare(now, n);
        return (int) partsOwingNothing(n, 0, now.owes[0], WHOLE);
    }

    /** How many of these parts, k MINUTES from now, owe nothing behind all n. */
    private long partsOwingNothing(int n, int k, int owed, long parts) {
        if (k >= n || k >= MOST_ODDS) {
            return owed == 0 ? parts : 0;
        }
        return parts == 0 ? 0 : partsOfBoth(n, k, owed, parts);
    }

    private long partsOfBoth(int n, int k, int owed, long parts) {
        int minute = now.minute + k;
        boolean isSeen = town.seers(trial.lookers(k, owed), minute, town.near(town.view())) != 0;
        int owing = owed + town.due(0, minute);
        long strange = parts * strangerRisk / 100;
        return partsOwingNothing(n, k + 1, town.leftBehind(0, owing, true), strange)
            + partsOwingNothing(n, k + 1, town.leftBehind(0, owing, isSeen), parts - strange);
    }

    public int peak(int bell, int n, int what) {
        if (!isBell(bell) || !isAhead(n) || what < 0 || what > 1) {
            return NONE;
        }
        trial.prepare(now, n);
        int most = NONE;
        int behind = 0;
        for (int k = 0; k < n; k++) {
            trial.step();
            if (trial.tower.owes[bell] > most) {
                most = trial.tower.owes[bell];
                behind = k + 1;
            }
        }
        return what == 0 ? most : behind;
    }

    public int free(int bell) {
        if (!isBell(bell)) {
            return NONE;
        }
        trial.prepare(now, MOST_AHEAD);
        for (int n = 1; n <= MOST_AHEAD; n++) {
            trial.step();
            if (trial.tower.owes[bell] == 0) {
                return n;
            }
        }
        return NONE;
    }

    public int alone(int person, int n) {
        if (!isPerson(person) || !isAhead(n)) {
            return NONE;
        }
        trial.prepare(now, n);
        int minutes = 0;
        for (int k = 0; k < n; k++) {
            trial.step();
            minutes += trial.sees == 1 << person ? 1 : 0;
        }
        return minutes;
    }

    public int hour(int bell, int k) {
        if (!isBell(bell) || k < 0) {
            return NONE;
        }
        trial.prepare(now, MOST_AHEAD);
        int strikes = now.owes[bell];
        int hours = 0;
        for (int n = 0; n < MOST_AHEAD; n++) {
            int due = town.due(bell, trial.tower.minute);
            if (due > 0 && hours <= k) {
                strikes += due;
                hours++;
            }
            trial.step();
            if (hours > k && trial.tower.rung[bell] - now.rung[bell] >= strikes) {
                return n;
            }
        }
        return NONE;
    }

    public int veil(int n, int what) {
        if (!hasTown() || !town.hasFog || !isAhead(n) || what < 0 || what > 1) {
            return NONE;
        }
        trial.prepare(now, n);
        for (int view = 0; view < VIEWS; view++) {
            trial.restart();
            trial.near = town.near(view);
            trial.offer(view, trial.lateness(0, n));
        }
        return what == 0 ? trial.best : trial.least;
    }

    public int image() {
        if (!hasTown()) {
            return NONE;
        }
        kept.copy(now);
        hasKept = true;
        return now.minute;
    }

    public int back() {
        if (!hasTown() || !hasKept) {
            return NONE;
        }
        now.copy(kept);
        past.forget();
        return now.minute;
    }

    public int count(int what) {
        switch (what) {
            case 0: return town.persons;
            case 1: return town.bellCount;
            case 2: return habitCount;
            case 3: return tape.length;
            case 4: return now.minute;
            case 5: return hasTown() ? town.view() : 0;
            case 6: return notes.length;
            case 7: return past.length;
            default: return HIDDEN;
        }
    }

    private boolean hasTown() {
        return town.persons > 0;
    }

    private boolean isPerson(int person) {
        return person >= 0 && person < town.persons && person < MOST_PERSONS;
    }

    private boolean isSpanPerson(int person) {
        return isPerson(person) && town.habits[person] == null;
    }

    private boolean isBell(int bell) {
        return bell >= 0 && bell < town.bellCount && bell < MOST_BELLS;
    }

    private static boolean isAhead(int n) {
        return n >= 1 && n <= MOST_AHEAD;
    }

    /** What was fed. */
    private static final class Tape {
        private final int[] bytes = new int[MOST_BYTES];
        private int length;

        static int bytesIn(int number) {
            int found = 0;
            for (int shift = 24; shift >= 0; shift -= 8) {
                found += (number >>> shift & 255) != 0 ? 1 : 0;
            }
            return found;
        }

        void add(int number) {
            for (int shift = 24; shift >= 0; shift -= 8) {
                int one = number >>> shift & 255;
                if (one != 0 && length >= 0 && length < bytes.length) {
                    bytes[length] = one;
                    length++;
                }
            }
        }
    }

    /** The TAPE read sign by sign, with the byte at which it went wrong. */
    private static final class Signs {
        private final Tape tape;
        private int at;
        private int wrong;

        Signs(Tape tape) {
            this.tape = tape;
        }

        void restart() {
            at = 0;
            wrong = NONE;
        }

        /** The next sign behind blanks, not yet taken; NONE at the end. */
        int peek() {
            for (int i = at; i >= 0 && i < tape.length && i < tape.bytes.length; i++) {
                at = i;
                if (tape.bytes[i] != ' ') {
                    return tape.bytes[i];
                }
            }
            at = tape.length;
            return NONE;
        }

        void skip() {
            at++;
        }

        boolean passes(int sign) {
            if (peek() != sign) {
                return false;
            }
            at++;
            return true;
        }

        boolean takes(int sign) {
            if (peek() != sign) {
                return refuse(at);
            }
            at++;
            return true;
        }

        boolean refuse(int where) {
            wrong = where;
            return false;
        }

        /** The digit right here, blanks not passed over; NONE for another sign. */
        private int digit() {
            if (at < 0 || at >= tape.length || at >= tape.bytes.length) {
                return NONE;
            }
            int value = tape.bytes[at] - '0';
            return value >= 0 && value <= 9 ? value : NONE;
        }

        /** A number of so many digits at most; NONE where it is wrong. */
        int number(int digits) {
            peek();
            int value = digit();
            if (value == NONE) {
                refuse(at);
                return NONE;
            }
            at++;
            for (int i = 1; i < digits && digit() != NONE; i++) {
                value = value * 10 + digit();
                at++;
            }
            if (digit() != NONE) {
                refuse(at);
                return NONE;
            }
            return value;
        }
    }

    /** Reads the TAPE as a TOWN. */
    private static final class TownReader {
        private final Signs signs;
        private final Town told;

        TownReader(Signs signs, Town told) {
            this.signs = signs;
            this.told = told;
        }

        /** The FAULT; NONE where the TOWN is told well. */
        int read() {
            signs.restart();
            told.clear();
            boolean more = true;
            for (int i = 0; more && i < MOST_BYTES; i++) {
                if (!readClause()) {
                    return signs.wrong;
                }
                more = signs.passes(';');
            }
            boolean isWhole = signs.peek() == NONE && told.persons > 0 && told.bellCount > 0;
            return isWhole ? NONE : signs.at;
        }

        private boolean readClause() {
            int sign = signs.peek();
            int[] row = sign == 'p' ? told.addPerson()
                : sign == 'g' ? told.addFog()
                : sign == 'b' ? told.addBell() : null;
            if (row == null) {
                return signs.refuse(signs.at);
            }
            signs.skip();
            return readItems(row, sign == 'p' ? PERSON_ITEMS : sign == 'g' ? FOG_ITEMS : BELL_ITEMS);
        }

        private boolean readItems(int[] row, int[] items) {
            int there = 0;
            for (int i = 0; i < MOST_BYTES; i++) {
                int item = itemOf(signs.peek(), items);
                if (item < 0 || item >= row.length || 4 * item + 3 >= items.length) {
                    return true;
                }
                if ((there >> item & 1) != 0) {
                    return signs.refuse(signs.at);
                }
                there |= 1 << item;
                signs.skip();
                int value = signs.number(2);
                if (value == NONE) {
                    return false;
                }
                if (value < items[4 * item + 1] || value > items[4 * item + 2]) {
                    return signs.refuse(signs.at - 1);
                }
                row[item] = value;
            }
            return true;
        }

        private static int itemOf(int sign, int[] items) {
            for (int i = 0; 4 * i < items.length; i++) {
                if (items[4 * i] == sign) {
                    return i;
                }
            }
            return NONE;
        }
    }

    /** Reads the TAPE as a HABIT; what it finds goes into the HABIT told, each sign behind what it works on. */
    private static final class HabitReader {
        private final Signs signs;
        private final Habit told;

        HabitReader(Signs signs, Habit told) {
            this.signs = signs;
            this.told = told;
        }

        /** The FAULT; NONE where the HABIT is told well. */
        int read() {
            signs.restart();
            told.clear();
            boolean more = true;
            for (int i = 0; more && i < MOST_BYTES; i++) {
                if (!readClause()) {
                    return signs.wrong;
                }
                told.put(Habit.END);
                more = signs.passes(';');
            }
            return signs.peek() == NONE ? NONE : signs.at;
        }

        private boolean readClause() {
            if (!signs.takes('y') || !signs.takes(':')) {
                return false;
            }
            int sign = signs.peek();
            boolean hasCondition = sign == '!' || sign == '(';
            if (hasCondition ? !readCondition(0) : !readSum(0)) {
                return false;
            }
            // Only what follows a first SUM tells whether it was all or began a CONDITION.
            if (!hasCondition && comparison(signs.peek()) != NONE) {
                hasCondition = true;
                if (!readComparison(0) || !readMoreUnits(0) || !readMoreTruths(0)) {
                    return false;
                }
            }
            if (!hasCondition) {
                return true;
            }
            told.put(Habit.IF);
            return signs.takes('?') && readSum(0);
        }

        private boolean readCondition(int depth) {
            return readTruth(depth) && readMoreTruths(depth);
        }

        private boolean readMoreTruths(int depth) {
            for (int i = 0; i < MOST_BYTES && signs.passes('|'); i++) {
                if (!readTruth(depth)) {
                    return false;
                }
                told.put(Habit.OR);
            }
            return true;
        }

        private boolean readTruth(int depth) {
            return readUnit(depth) && readMoreUnits(depth);
        }

        private boolean readMoreUnits(int depth) {
            for (int i = 0; i < MOST_BYTES && signs.passes('&'); i++) {
                if (!readUnit(depth)) {
                    return false;
                }
                told.put(Habit.AND);
            }
            return true;
        }

        private boolean readUnit(int depth) {
            int sign = signs.peek();
            if (sign != '!' && sign != '(') {
                return readSum(depth) && readComparison(depth);
            }
            if (depth >= MOST_NESTED) {
                return signs.refuse(signs.at);
            }
            signs.skip();
            return sign == '!' ? readDenied(depth + 1) : readCondition(depth + 1) && signs.takes(')');
        }

        private boolean readDenied(int depth) {
            if (!readUnit(depth)) {
                return false;
            }
            told.put(Habit.NOT);
            return true;
        }

        private boolean readComparison(int depth) {
            int code = comparison(signs.peek());
            if (code == NONE) {
                return signs.refuse(signs.at);
            }
            signs.skip();
            if (!readSum(depth)) {
                return false;
            }
            told.put(code);
            return true;
        }

        private static int comparison(int sign) {
            return sign == '=' ? Habit.EQUAL : sign == '<' ? Habit.BELOW : sign == '>' ? Habit.ABOVE : NONE;
        }

        private boolean readSum(int depth) {
            if (!readTerm(depth)) {
                return false;
            }
            for (int i = 0; i < MOST_BYTES; i++) {
                int sign = signs.peek();
                if (sign != '+' && sign != '-') {
                    return true;
                }
                signs.skip();
                if (!readTerm(depth)) {
                    return false;
                }
                told.put(sign == '+' ? Habit.PLUS : Habit.MINUS);
            }
            return true;
        }

        private boolean readTerm(int depth) {
            if (!readAtom(depth)) {
                return false;
            }
            for (int i = 0; i < MOST_BYTES; i++) {
                int sign = signs.peek();
                if (sign != '*' && sign != '/') {
                    return true;
                }
                signs.skip();
                if (!readAtom(depth)) {
                    return false;
                }
                told.put(sign == '*' ? Habit.BY : Habit.OVER);
            }
            return true;
        }

        private boolean readAtom(int depth) {
            int sign = signs.peek();
            if (sign == '[') {
                if (depth >= MOST_NESTED) {
                    return signs.refuse(signs.at);
                }
                signs.skip();
                return readSum(depth + 1) && signs.takes(']');
            }
            int letter = Habit.letterOf(sign);
            if (letter != NONE) {
                signs.skip();
                told.put(Habit.FIRST_LETTER - letter);
                return true;
            }
            int value = signs.number(4);
            if (value == NONE) {
                return false;
            }
            told.put(value);
            return true;
        }
    }

    /** A HABIT as codes, each behind what it works on; codes of 0 and more are numbers. */
    private static final class Habit {
        private static final int FIRST_LETTER = -2;
        private static final int LETTERS = 6;
        private static final int END = -10;
        private static final int IF = -11;
        private static final int OR = -12;
        private static final int AND = -13;
        private static final int NOT = -14;
        private static final int EQUAL = -15;
        private static final int BELOW = -16;
        private static final int ABOVE = -17;
        private static final int PLUS = -18;
        private static final int MINUS = -19;
        private static final int BY = -20;
        private static final int OVER = -21;

        private static final int OWED = 3;
        // Six nested signs leave two numbers each lying, and a few more.
        private static final int MOST_LYING = 32;
        private static final int MOST_WORTH = 1000000;

        private final int number;
        private final int[] codes = new int[MOST_BYTES];
        private int length;
        private final int[] lying = new int[MOST_LYING];

        Habit(int number) {
            this.number = number;
        }

        static int letterOf(int sign) {
            switch (sign) {
                case 't': return 0;
                case 'h': return 1;
                case 'm': return 2;
                case 'o': return OWED;
                case 'd': return 4;
                case 'p': return 5;
                default: return NONE;
            }
        }

        void clear() {
            length = 0;
        }

        void put(int code) {
            if (length >= 0 && length < codes.length) {
                codes[length] = code;
                length++;
            }
        }

        void copy(Habit other) {
            clear();
            for (int i = 0; i < other.length && i < other.codes.length; i++) {
                put(other.codes[i]);
            }
        }

        boolean heedsOwed() {
            for (int i = 0; i < length && i < codes.length; i++) {
                if (codes[i] == FIRST_LETTER - OWED) {
                    return true;
                }
            }
            return false;
        }

        /** WORTH, where the letters are so much. */
        int worth(int[] letters) {
            int top = 0;
            boolean isPassedOver = false;
            for (int at = 0; at < length && at < codes.length; at++) {
                int code = codes[at];
                int letter = FIRST_LETTER - code;
                if (isPassedOver) {
                    isPassedOver = code != END;
                } else if (code >= 0 || letter >= 0 && letter < LETTERS && letter < letters.length) {
                    if (top < lying.length) {
                        lying[top] = code >= 0 ? code : letters[letter];
                        top++;
                    }
                } else if (top < 1 || top > lying.length) {
                    return 0;
                } else if (code == END) {
                    return lying[top - 1];
                } else if (code == NOT) {
                    lying[top - 1] = lying[top - 1] == 0 ? 1 : 0;
                } else if (code == IF) {
                    top--;
                    isPassedOver = lying[top] == 0;
                } else if (top > 1) {
                    top--;
                    lying[top - 1] = joined(code, lying[top - 1], lying[top]);
                }
            }
            return 0;
        }

        private static int joined(int code, long left, long right) {
            long value = 0;
            switch (code) {
                case OR: value = left != 0 || right != 0 ? 1 : 0; break;
                case AND: value = left != 0 && right != 0 ? 1 : 0; break;
                case EQUAL: value = left == right ? 1 : 0; break;
                case BELOW: value = left < right ? 1 : 0; break;
                case ABOVE: value = left > right ? 1 : 0; break;
                case PLUS: value = left + right; break;
                case MINUS: value = left - right; break;
                case BY: value = left * right; break;
                case OVER: value = right == 0 ? 0 : left / right; break;
                default: break;
            }
            return (int) Math.max(-MOST_WORTH, Math.min(MOST_WORTH, value));
        }
    }

    /** Who lives there, the fog, and what the bells are. */
    private static final class Town {
        private final int[][] people = new int[MOST_PERSONS][4];
        private final Habit[] habits = new Habit[MOST_PERSONS];
        private final int[][] bells = new int[MOST_BELLS][3];
        private final int[] veil = new int[4];
        private final int[] letters = new int[Habit.LETTERS];
        private int persons;
        private int bellCount;
        private boolean hasFog;

        void clear() {
            for (int i = 0; i < habits.length; i++) {
                habits[i] = null;
            }
            persons = 0;
            bellCount = 0;
            hasFog = false;
        }

        void copy(Town other) {
            clear();
            for (int i = 0; i < other.persons && i < MOST_PERSONS; i++) {
                copyRow(other.people[i], addPerson());
            }
            for (int i = 0; i < other.bellCount && i < MOST_BELLS; i++) {
                copyRow(other.bells[i], addBell());
            }
            if (other.hasFog) {
                copyRow(other.veil, addFog());
            }
        }

        private static void copyRow(int[] source, int[] target) {
            for (int i = 0; target != null && i < source.length && i < target.length; i++) {
                target[i] = source[i];
            }
        }

        /** The row of one more PERSON; null where there is no room for one. */
        int[] addPerson() {
            if (persons < 0 || persons >= people.length) {
                return null;
            }
            persons++;
            return untold(people[persons - 1], PERSON_ITEMS);
        }

        int[] addBell() {
            if (bellCount < 0 || bellCount >= bells.length) {
                return null;
            }
            bellCount++;
            return untold(bells[bellCount - 1], BELL_ITEMS);
        }

        int[] addFog() {
            if (hasFog) {
                return null;
            }
            hasFog = true;
            return untold(veil, FOG_ITEMS);
        }

        private static int[] untold(int[] row, int[] items) {
            for (int i = 0; i < row.length && 4 * i + 3 < items.length; i++) {
                row[i] = items[4 * i + 3];
            }
            return row;
        }

        int view() {
            return hasFog ? veil[VIEW] : NONE;
        }

        boolean isFoggy(int minute) {
            return hasFog && isOn(minute, veil[FROM], veil[LONG], veil[PERIOD]);
        }

        private static boolean isOn(int minute, int from, int along, int period) {
            return period > 0 && Math.floorMod(minute - from, period) < along;
        }

        private boolean livesHere(int person) {
            return person >= 0 && person < persons && person < MOST_PERSONS;
        }

        private boolean hangsHere(int bell) {
            return bell >= 0 && bell < bellCount && bell < MOST_BELLS;
        }

        boolean spanIsOn(int person, int from, int minute) {
            if (!livesHere(person)) {
                return false;
            }
            return isOn(minute, from, people[person][LONG], people[person][PERIOD]);
        }

        boolean doesLook(int person, int minute, int owed) {
            if (!livesHere(person)) {
                return false;
            }
            Habit habit = habits[person];
            if (habit == null) {
                return spanIsOn(person, people[person][FROM], minute);
            }
            int period = bells[0][HOUR];
            letters[0] = minute;
            letters[1] = period > 0 ? minute / period : 0;
            letters[2] = period > 0 ? minute % period : 0;
            letters[Habit.OWED] = owed;
            letters[4] = people[person][DISTANCE];
            letters[5] = person;
            return habit.worth(letters) > 0;
        }

        /** Of these PERSONS (bits) those who LOOK. */
        int lookers(int minute, int owed, int who) {
            int found = 0;
            for (int i = 0; i < persons && i < MOST_PERSONS; i++) {
                if ((who >> i & 1) != 0 && doesLook(i, minute, owed)) {
                    found |= 1 << i;
                }
            }
            return found;
        }

        /** Of those who LOOK those who SEE the tower, where only these are near enough in FOG. */
        int seers(int looking, int minute, int near) {
            return isFoggy(minute) ? looking & near : looking;
        }

        int near(int view) {
            int found = 0;
            for (int i = 0; i < persons && i < MOST_PERSONS; i++) {
                if (people[i][DISTANCE] <= view) {
                    found |= 1 << i;
                }
            }
            return found;
        }

        /** The PERSONS whose LOOKS hang on what BELL 0 owes. */
        int wavering() {
            int found = 0;
            for (int i = 0; i < persons && i < MOST_PERSONS; i++) {
                Habit habit = habits[i];
                if (habit != null && habit.heedsOwed()) {
                    found |= 1 << i;
                }
            }
            return found;
        }

        /** The BELLS that a PERSON can hear. */
        int reaching(int person) {
            int found = 0;
            for (int i = 0; i < bellCount && i < MOST_BELLS && livesHere(person); i++) {
                if (people[person][DISTANCE] <= bells[i][REACH]) {
                    found |= 1 << i;
                }
            }
            return found;
        }

        int due(int bell, int minute) {
            if (!hangsHere(bell)) {
                return 0;
            }
            int period = bells[bell][HOUR];
            if (period < 1 || minute % period != 0) {
                return 0;
            }
            int strikes = minute / period % 12;
            return strikes == 0 ? 12 : strikes;
        }

        /** What a BELL that owes so many (those due too) owes behind the MINUTE. */
        int leftBehind(int bell, int owing, boolean isSeen) {
            if (!hangsHere(bell) || owing < 1) {
                return owing;
            }
            boolean isVain = bells[bell][KIND] == 1;
            return isVain == isSeen ? owing - 1 : owing;
        }
    }

    /** How it stands: the next MINUTE, what the BELLS owe and have rung, the draws. */
    private static final class Tower {
        private int minute;
        private final int[] owes = new int[MOST_BELLS];
        private final int[] rung = new int[MOST_BELLS];
        private long draws;

        /** MINUTE 0 of a TOWN; draws stay. */
        void restart() {
            minute = 0;
            for (int i = 0; i < MOST_BELLS; i++) {
                owes[i] = 0;
                rung[i] = 0;
            }
        }

        void copy(Tower other) {
            minute = other.minute;
            for (int i = 0; i < MOST_BELLS; i++) {
                owes[i] = other.owes[i];
                rung[i] = other.rung[i];
            }
            draws = other.draws;
        }

        /** A draw of 100. */
        int draw() {
            draws = draws * 6364136223846793005L + 1442695040888963407L;
            return (int) ((draws >>> 33) % 100);
        }

        /** The MINUTE goes by: the BELLS (bits) that ring in it. */
        int pass(Town town, boolean isSeen) {
            int rang = 0;
            for (int i = 0; i < town.bellCount && i < MOST_BELLS; i++) {
                int owing = owes[i] + town.due(i, minute);
                owes[i] = town.leftBehind(i, owing, isSeen);
                if (owes[i] < owing) {
                    rung[i]++;
                    rang |= 1 << i;
                }
            }
            minute++;
            return rang;
        }
    }

    /** How it stood as each of the latest MINUTES began. */
    private static final class Past {
        private final Tower[] towers = new Tower[MOST_UNDONE];
        private int next;
        private int length;

        Past() {
            for (int i = 0; i < towers.length; i++) {
                towers[i] = new Tower();
            }
        }

        void forget() {
            length = 0;
        }

        void keep(Tower tower) {
            if (next < 0 || next >= towers.length) {
                next = 0;
            }
            if (towers[next] != null) {
                towers[next].copy(tower);
                next = next + 1 < towers.length ? next + 1 : 0;
                length = Math.min(length + 1, towers.length);
            }
        }

        boolean restore(Tower tower) {
            int latest = next > 0 && next <= towers.length ? next - 1 : towers.length - 1;
            if (length < 1 || latest < 0 || towers[latest] == null) {
                return false;
            }
            length--;
            next = latest;
            tower.copy(towers[latest]);
            return true;
        }
    }

    /** What was NOTED of BELL 0. */
    private static final class Notes {
        private final int[] minutes = new int[MOST_NOTED];
        private final boolean[] rings = new boolean[MOST_NOTED];
        private int length;

        void forget() {
            length = 0;
        }

        void add(int minute, boolean is) {
            if (length >= 0 && length < MOST_NOTED) {
                minutes[length] = minute;
                rings[length] = is;
                length++;
            }
        }

        int furthest() {
            int most = NONE;
            for (int i = 0; i < length && i < MOST_NOTED; i++) {
                most = Math.max(most, minutes[i]);
            }
            return most;
        }

        /** Whether all was so, from this first MINUTE of these. */
        boolean fit(boolean[] rangAt, int first) {
            for (int i = 0; i < length && i < MOST_NOTED; i++) {
                int minute = first + minutes[i];
                if (minute < 0 || minute >= rangAt.length || rangAt[minute] != rings[i]) {
                    return false;
                }
            }
            return true;
        }
    }

    /** MINUTES tried apart, as if some LOOKED otherwise; what is so in each trial of a call is found once. */
    private static final class Trial {
        private final Town town;
        private final Tower tower = new Tower();
        private Tower start;
        private final int[] steady = new int[FIRST_MINUTES + LAST_NOTED];
        private final boolean[] rangAt = new boolean[FIRST_MINUTES + LAST_NOTED];
        private int wavering;
        private int steps;
        private int away;
        private int staring;
        private int moved;
        private int movedFrom;
        private int near;
        private int looks;
        private int sees;
        private int rang;
        private int best;
        private int least;

        Trial(Town town, Tower start) {
            this.town = town;
            this.start = start;
        }

        /** Trials of so many MINUTES from there. */
        void prepare(Tower start, int n) {
            this.start = start;
            best = NONE;
            wavering = town.wavering();
            for (int k = 0; k < n && k < steady.length; k++) {
                steady[k] = town.lookers(start.minute + k, 0, ~wavering);
            }
            restart();
        }

        /** Nobody LOOKS otherwise, and no MINUTE has gone by. */
        void restart() {
            tower.copy(start);
            steps = 0;
            away = 0;
            staring = 0;
            moved = NONE;
            near = town.near(town.view());
        }

        void move(int person, int from) {
            moved = person;
            movedFrom = from;
        }

        /** Those who LOOK so many MINUTES from the start, BELL 0 owing so much. */
        int lookers(int k, int owed) {
            int found = k >= 0 && k < steady.length ? steady[k] : 0;
            int minute = start.minute + k;
            int asked = wavering & ~away & ~staring;
            for (int i = 0; asked != 0 && i < town.persons; i++) {
                found |= (asked >> i & 1) != 0 && town.doesLook(i, minute, owed) ? 1 << i : 0;
            }
            if (moved != NONE) {
                int one = 1 << moved;
                found = town.spanIsOn(moved, movedFrom, minute) ? found | one : found & ~one;
            }
            return (found | staring) & ~away;
        }

        void step() {
            looks = lookers(steps, tower.owes[0]);
            sees = town.seers(looks, tower.minute, near);
            rang = tower.pass(town, sees != 0);
            if (steps >= 0 && steps < rangAt.length) {
                rangAt[steps] = (rang & 1) != 0;
            }
            steps++;
        }

        void run(int n) {
            for (int k = 0; k < n; k++) {
                step();
            }
        }

        /** LATE. */
        int lateness(int bell, int n) {
            int sum = 0;
            for (int k = 0; k < n && bell >= 0 && bell < MOST_BELLS; k++) {
                step();
                sum += tower.owes[bell];
            }
            return sum;
        }

        /** What is offered first of those with the least LATE is kept as the best. */
        void offer(int which, int lateness) {
            if (best == NONE || lateness < least) {
                best = which;
                least = lateness;
            }
        }

        /** Whether BELL 0 rings in none of them, while these LOOK in all. */
        boolean isStillUnder(int bits, int n) {
            restart();
            staring = bits;
            for (int k = 0; k < n; k++) {
                step();
                if ((rang & 1) != 0) {
                    return false;
                }
            }
            return true;
        }
    }
}
