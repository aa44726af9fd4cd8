import java.util.NoSuchElementException;
import java.util.Random;

/** Runs of calls, always the same ones, each answered by the class and by Naive: the answers have to be alike. */
public final class FuzzTest {
    private static final int RUNS = 250;
    private static final int CALLS = 512;
    private static final int MOST_TOLD = 20;

    private static int wrong;
    private static final long[] asked = new long[36];

    private final Random random;
    private final ShyBell bell = new ShyBell();
    private final Naive naive = new Naive();
    private final StringBuilder run = new StringBuilder();

    private FuzzTest(int seed) {
        random = new Random(seed);
    }

    public static void main(String[] args) {
        for (int seed = 1; seed <= RUNS; seed++) {
            new FuzzTest(seed).goOn();
        }
        for (int seed = 1; seed <= 60000; seed++) {
            new FuzzTest(1000000 + seed).faults();
        }
        for (int i = 3; i < asked.length; i++) {
            if (asked[i] == 0) {
                wrong++;
                System.out.println("call " + i + " was never answered otherwise than by a refusal");
            }
        }
        System.out.println(wrong == 0 ? "fuzz: all alike" : "fuzz: " + wrong + " not alike");
        System.exit(wrong == 0 ? 0 : 1);
    }

    private void same(int call, String what, long got, long due) {
        run.append(what).append(" = ").append(due).append('\n');
        if (due >= 0) {
            asked[call]++;
        }
        if (got != due) {
            wrong++;
            if (wrong <= MOST_TOLD) {
                System.out.println("answered " + got + ", due is " + due + ", last of\n" + run);
            }
        }
    }

    private boolean often(int percent) {
        return random.nextInt(100) < percent;
    }

    private int between(int least, int most) {
        return least + random.nextInt(most - least + 1);
    }

    /** Mostly within, now and then at or past the edges. */
    private int around(int least, int most) {
        if (often(90)) {
            return between(least, most);
        }
        int[] edges = {least, most, least - 1, most + 1, Integer.MIN_VALUE, Integer.MAX_VALUE, -1, 0, 1 << 20};
        return edges[random.nextInt(edges.length)];
    }

    private void goOn() {
        tell(0, town());
        for (int call = 0; call < CALLS - 120; call++) {
            one();
        }
    }

    private void faults() {
        run.setLength(0);
        int sort = random.nextInt(2);
        String text = sort == 0 ? town() : habit();
        StringBuilder spoilt = new StringBuilder(text);
        for (int i = random.nextInt(4); i > 0 && spoilt.length() > 0; i--) {
            String signs = " 0159;pgbflqdvhkryom:![]()=<>+-*/&|?x\u00ff";
            char c = signs.charAt(random.nextInt(signs.length()));
            int at = random.nextInt(spoilt.length());
            int how = random.nextInt(4);
            if (how == 0) spoilt.setCharAt(at, c);
            if (how == 1) spoilt.insert(at, c);
            if (how == 2) spoilt.deleteCharAt(at);
            if (how == 3) spoilt.setLength(at);
        }
        feed(spoilt.toString());
        same(2, "fault(" + sort + ")", bell.fault(sort), naive.fault(sort));
    }

    private void tell(int sort, String text) {
        same(1, "end(0)", bell.end(0) ? 1 : 0, naive.end(0) ? 1 : 0);
        feed(text);
        same(3, "text(" + sort + ")", bell.text(sort), naive.text(sort));
    }

    private void feed(String text) {
        for (int at = 0; at < text.length() && at < 160; at += 20) {
            int[] numbers = new int[5];
            for (int i = 0; i < 20; i++) {
                int one = at + i < text.length() && at + i < 160 ? text.charAt(at + i) : 0;
                numbers[i / 4] = numbers[i / 4] << 8 | one;
            }
            same(0, "feed(\"" + text + "\")", bell.feed(numbers[0], numbers[1], numbers[2], numbers[3], numbers[4]),
                naive.feed(numbers));
        }
    }

    private String blank() {
        return often(10) ? " " : "";
    }

    private String items(String told) {
        StringBuilder all = new StringBuilder();
        for (String item : told.split(" ")) {
            if (often(60)) {
                String[] parts = item.split(",");
                int most = Integer.parseInt(parts[2]);
                int v = around(Integer.parseInt(parts[1]), often(50) ? Math.min(most, 20) : most);
                all.append(blank()).append(parts[0]).append(blank()).append(Math.max(0, Math.min(v, 99)));
            }
        }
        return all.toString();
    }

    private String town() {
        StringBuilder all = new StringBuilder();
        int persons = between(1, often(20) ? 7 : 4);
        int fogs = often(60) ? 1 : 0;
        int bells = between(1, 2);
        while (persons + fogs + bells > 0) {
            int which = random.nextInt(persons + fogs + bells);
            all.append(all.length() > 0 ? ";" : "").append(blank());
            if (which < persons) {
                persons--;
                all.append("p").append(items("f,0,59 l,0,60 q,1,60 d,0,9"));
            } else if (which < persons + fogs) {
                fogs--;
                all.append("g").append(items("f,0,59 l,0,60 q,1,60 v,0,9"));
            } else {
                bells--;
                all.append("b").append(items("h,5,60 k,0,1 r,0,9"));
            }
        }
        return all.toString();
    }

    private String habit() {
        StringBuilder all = new StringBuilder();
        for (int i = between(1, 3); i > 0; i--) {
            all.append("y").append(blank()).append(":").append(blank());
            if (often(60)) {
                all.append(condition(0)).append("?");
            }
            all.append(sum(often(20) ? 5 : 1)).append(i > 1 ? ";" : "");
        }
        return all.toString();
    }

    private String condition(int depth) {
        StringBuilder all = new StringBuilder(unit(depth));
        while (often(30)) {
            all.append(blank()).append(often(50) ? "&" : "|").append(blank()).append(unit(depth));
        }
        return all.toString();
    }

    private String unit(int depth) {
        if (depth < 8 && often(25)) {
            return "!" + blank() + unit(depth + 1);
        }
        if (depth < 8 && often(20)) {
            return "(" + condition(depth + 1) + blank() + ")";
        }
        return sum(depth) + "=<>".charAt(random.nextInt(3)) + sum(depth);
    }

    private String sum(int depth) {
        StringBuilder all = new StringBuilder(atom(depth));
        while (often(35)) {
            all.append(blank()).append("+-*/".charAt(random.nextInt(4))).append(blank()).append(atom(depth));
        }
        return all.toString();
    }

    private String atom(int depth) {
        if (depth < 8 && often(20)) {
            return "[" + sum(depth + 1) + "]";
        }
        return often(40) ? "" + random.nextInt(often(20) ? 10001 : 12) : "" + "thmodp".charAt(random.nextInt(6));
    }

    private void one() {
        int n = around(1, often(70) ? 40 : 240);
        int person = around(0, often(50) ? 1 : 5);
        int which = around(0, 1);
        int what = around(0, 1);
        int i = often(20) ? -1 : around(0, 30);
        String with = "(" + person + "/" + which + ", " + n + "/" + i + ", " + what + ")";
        switch (random.nextInt(often(5) ? 12 : 50)) {
            case 0: tell(0, town()); break;
            case 1: tell(1, habit()); break;
            case 2: same(1, "end" + i, bell.end(i) ? 1 : 0, naive.end(i) ? 1 : 0); break;
            case 3: same(2, "fault" + what, bell.fault(what), naive.fault(what)); break;
            case 4: same(3, "text" + what, bell.text(what), naive.text(what)); break;
            case 5: case 6: {
                int v = (int) random.nextLong();
                feed(often(50) ? "p;b" : "" + (char) (v & 127));
                break;
            }
            case 7: case 8: case 9: case 10: person(person, around(0, 6)); break;
            case 11: {
                int w = around(0, 4);
                same(5, "bell" + which + "," + w, bell.bell(which, w), naive.bell(which, w));
                break;
            }
            case 12: same(6, "fog" + i * 7, bell.fog(i * 7), naive.fog(i * 7)); break;
            case 13: case 14: case 15: case 16: set(person); break;
            case 17: {
                int v = around(0, 100);
                v = often(50) ? 0 : v;
                same(8, "risk" + v, bell.risk(v) ? 1 : 0, naive.risk(v) ? 1 : 0);
                break;
            }
            case 18: {
                long v = random.nextLong();
                same(9, "seed" + v, bell.seed(v) ? 1 : 0, naive.seed(v) ? 1 : 0);
                break;
            }
            case 19: case 20: same(10, "go" + n, bell.go(n), naive.go(n)); break;
            case 21: case 22: same(11, "undo", bell.undo(), naive.undo()); break;
            case 23: same(12, "ahead" + with, bell.ahead(which, n, what), naive.ahead(which, n, what)); break;
            case 24: same(13, "strike" + with, bell.strike(which, i), naive.strike(which, i)); break;
            case 25: same(14, "late" + with, bell.late(which, n), naive.late(which, n)); break;
            case 26: same(15, "bunch" + with, bell.bunch(which, n), naive.bunch(which, n)); break;
            case 27: same(16, "ears" + with, bell.ears(person, n), naive.ears(person, n)); break;
            case 28: same(17, "seen" + with, bell.seen(n, what), naive.seen(n, what)); break;
            case 29: same(18, "turn" + with, bell.turn(n), naive.turn(n)); break;
            case 30: same(19, "stare" + with, bell.stare(n), naive.stare(n)); break;
            case 31: {
                int other = around(0, 3);
                same(20, "lovers" + with + other, bell.lovers(person, other, n, what),
                    naive.lovers(person, other, n, what));
                break;
            }
            case 32: same(21, "spoil" + with, bell.spoil(n, what), naive.spoil(n, what)); break;
            case 33: same(22, "errand" + with, bell.errand(person, n, what), naive.errand(person, n, what)); break;
            case 34: case 35: {
                int minute = around(0, often(50) ? 10 : 60);
                boolean is = often(50);
                same(23, "note" + minute + is, bell.note(minute, is), naive.note(minute, is));
                break;
            }
            case 36: same(24, "times" + i, bell.times(i), naive.times(i)); break;
            case 37: same(25, "whose" + with, bell.whose(person, i), naive.whose(person, i)); break;
            case 38: {
                int few = around(1, often(20) ? 10 : 6);
                same(26, "odds" + few, bell.odds(few), naive.odds(few));
                break;
            }
            case 39: same(27, "peak" + with, bell.peak(which, n, what), naive.peak(which, n, what)); break;
            case 40: same(28, "free" + which, bell.free(which), naive.free(which)); break;
            case 41: same(29, "alone" + with, bell.alone(person, n), naive.alone(person, n)); break;
            case 42: case 43: same(30, "hour" + with, bell.hour(which, i), naive.hour(which, i)); break;
            case 44: same(31, "veil" + with, bell.veil(n, what), naive.veil(n, what)); break;
            case 45: same(32, "image", bell.image(), naive.image()); break;
            case 46: same(33, "back", bell.back(), naive.back()); break;
            default: {
                int w = around(0, 7);
                same(34, "count" + w, bell.count(w), naive.count(w));
                same(35, "count4", bell.count(4), naive.count(4));
                break;
            }
        }
    }

    private void set(int person) {
        int what = around(0, 3);
        int v = what == 3 ? around(-1, 3) : around(0, 60);
        same(7, "set(" + person + ", " + what + ", " + v + ")",
            bell.set(person, what, v) ? 1 : 0, naive.set(person, what, v) ? 1 : 0);
    }

    private void person(int person, int what) {
        long got;
        long due;
        try {
            got = bell.person(person, what);
        } catch (NoSuchElementException e) {
            got = -77;
        }
        try {
            due = naive.person(person, what);
        } catch (NoSuchElementException e) {
            due = -77;
        }
        same(4, "person(" + person + ", " + what + ")", got, due);
    }
}
