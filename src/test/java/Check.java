import java.util.NoSuchElementException;

/** What the tests that are worked out by hand share. */
abstract class Check {
    static final int NONE = -1;
    static final int HIDDEN = -1000000;
    static final int LEAST = Integer.MIN_VALUE;
    static final int MOST = Integer.MAX_VALUE;
    static final int THROWN = -77;

    private static int wrong;
    private static String sentence = "";

    /** What is tested from here on, for those who read what failed. */
    static void at(String told) {
        sentence = told;
    }

    static void due(String what, long got, long want) {
        if (got != want) {
            wrong++;
            System.out.println(sentence + ": " + what + " answered " + got + ", due is " + want);
        }
    }

    static void due(String what, boolean got, boolean want) {
        due(what, got ? 1 : 0, want ? 1 : 0);
    }

    static void finish(String name) {
        System.out.println(name + (wrong == 0 ? ": all as due" : ": " + wrong + " not as due"));
        System.exit(wrong == 0 ? 0 : 1);
    }

    /** The text comes to the TAPE, twenty bytes a call. */
    static void tape(ShyBell x, String text) {
        for (int at = 0; at < text.length(); at += 20) {
            int[] n = new int[5];
            for (int i = 0; i < 20 && at + i < text.length(); i++) {
                n[i / 4] |= (text.charAt(at + i) & 255) << 24 - 8 * (i % 4);
            }
            x.feed(n[0], n[1], n[2], n[3], n[4]);
        }
    }

    static ShyBell town(String text) {
        ShyBell x = new ShyBell();
        tape(x, text);
        due("text(0) of " + text, x.text(0) > 0, true);
        return x;
    }

    static int habit(ShyBell x, String text) {
        tape(x, text);
        return x.text(1);
    }

    static void fault(int sort, String text, int want) {
        ShyBell x = new ShyBell();
        tape(x, text);
        due("fault(" + sort + ") of \"" + text + "\"", x.fault(sort), want);
        due("bytes behind fault", x.count(3), text.length());
    }

    /** What person answers; THROWN where it throws. */
    static int asked(ShyBell x, int person, int what) {
        try {
            return x.person(person, what);
        } catch (NoSuchElementException e) {
            return THROWN;
        }
    }

    static void personThrows(ShyBell x, int person, int what) {
        due("person(" + person + ", " + what + ") throws", asked(x, person, what), THROWN);
    }

    static String many(String part, int times) {
        return part.repeat(times);
    }
}
