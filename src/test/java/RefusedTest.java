/**
 * What is refused answers as told and changes nothing, and so does what is only asked: behind each such call all that
 * can be seen of the object is as it is without it, with what goes by, is UNDONE, comes BACK and is told later on.
 */
public final class RefusedTest extends Check {
    private static final int[] NO_BELLS = {-1, 2, 3, LEAST, MOST};
    private static final int[] NO_PERSONS = {-1, 3, 4, 6, LEAST, MOST};
    private static final int[] NO_MINUTES = {0, -1, 241, LEAST, MOST};
    private static final int[] NO_WHAT = {-1, 2, 3, LEAST, MOST};

    private interface Call {
        long on(ShyBell x);
    }

    private interface Start {
        ShyBell made();
    }

    private static Start start;
    private static String unchanged;
    private static int calls;

    public static void main(String[] args) {
        fresh();
        rich();
        full();
        bare();
        asked();
        due("calls refused or asked, many of them", calls > 500, true);
        finish("refused");
    }

    private static void from(String name, Start made) {
        at(name);
        start = made;
        unchanged = shown(made.made());
        due("the same again", unchanged.equals(shown(made.made())), true);
    }

    private static void refused(String name, long want, Call call) {
        ShyBell x = start.made();
        due(name, call.on(x), want);
        same(name, x);
    }

    private static void same(String name, ShyBell x) {
        calls++;
        String now = shown(x);
        if (!now.equals(unchanged)) {
            due(name + " changed something: " + now + " in place of " + unchanged, 1, 0);
        }
    }

    private static long bit(boolean is) {
        return is ? 1 : 0;
    }

    /** All that can be seen, in less than 400 calls; the TAPE, the draws, the IMAGE, HABITS and MINUTES UNDONE too. */
    private static String shown(ShyBell x) {
        StringBuilder all = new StringBuilder();
        counts(all, x);
        for (int person = 0; person < 6; person++) {
            for (int what = 0; what <= 6; what++) {
                all.append(' ').append(asked(x, person, what));
            }
        }
        bells(all, x);
        all.append(" fog ").append(x.fog(0)).append(x.fog(7)).append(x.fog(31));
        all.append(" fault ").append(x.fault(0)).append(' ').append(x.fault(1));
        all.append(" noted ").append(x.times(NONE)).append(' ').append(x.times(0)).append(' ').append(x.whose(0, NONE));
        all.append(" odds ").append(x.odds(4)).append(' ').append(x.free(0));
        all.append(" go ").append(x.go(1)).append(' ').append(x.go(3)).append(' ').append(x.go(9));
        bells(all, x);
        int undone = 0;
        while (undone < 70 && x.undo() != NONE) {
            undone++;
        }
        all.append(" undone ").append(undone);
        bells(all, x);
        all.append(x.go(25));
        bells(all, x);
        all.append(" back ").append(x.back());
        bells(all, x);
        all.append(x.go(35));
        bells(all, x);
        for (int habit = 0; habit < 4; habit++) {
            all.append(" habit ").append(x.set(0, 3, habit)).append(x.ahead(0, 50, 0)).append(' ').append(x.seen(50, 0));
        }
        theTape(all, x);
        return all.toString();
    }

    private static void counts(StringBuilder all, ShyBell x) {
        for (int what = 0; what <= 7; what++) {
            all.append(' ').append(x.count(what));
        }
    }

    private static void bells(StringBuilder all, ShyBell x) {
        all.append(" bells");
        for (int bell = 0; bell < 2; bell++) {
            for (int what = 0; what <= 4; what++) {
                all.append(' ').append(x.bell(bell, what));
            }
        }
        all.append(' ').append(x.count(4)).append(' ').append(x.count(7));
    }

    /** The faults of ever shorter parts tell which bytes there are. */
    private static void theTape(StringBuilder all, ShyBell x) {
        int length = x.count(3);
        all.append(" tape");
        for (int n = Math.min(length, 20); n >= 0; n--) {
            all.append(' ').append(x.end(n)).append(x.fault(0)).append(',').append(x.fault(1));
        }
        tape(x, "p;b");
        all.append(x.text(0));
    }

    private static ShyBell richTown() {
        ShyBell x = town("pf3l2q20d4;p;pf11l4q13d9;gf4l10q30v3;bh41;bh7k1r3");
        habit(x, "y:o=1&m>9?1;y:3-m");
        habit(x, "y:t/9-h*2");
        x.set(1, 3, 0);
        x.seed(12345);
        x.risk(35);
        x.go(70);
        x.image();
        x.go(13);
        x.note(0, false);
        x.note(3, true);
        x.note(40, false);
        tape(x, "pf1;bh7 x");
        return x;
    }

    private static void fresh() {
        from("no TOWN", ShyBell::new);
        refusedWithoutTown();
        for (int sort : new int[] {-1, 2, LEAST, MOST}) {
            refused("fault(" + sort + ")", -2, x -> x.fault(sort));
            refused("text(" + sort + ")", NONE, x -> x.text(sort));
        }
        refused("text(0)", NONE, x -> x.text(0));
        refused("text(1)", NONE, x -> x.text(1));
        for (int n : new int[] {-1, 1, 160, LEAST, MOST}) {
            refused("end(" + n + ")", 0, x -> bit(x.end(n)));
        }
        for (int v : new int[] {-1, 101, LEAST, MOST}) {
            refused("risk(" + v + ")", 0, x -> bit(x.risk(v)));
        }
        from("no TOWN, with a HABIT and a TAPE", () -> {
            ShyBell x = new ShyBell();
            habit(x, "y:1");
            x.risk(50);
            tape(x, "p;b;p,");
            return x;
        });
        refusedWithoutTown();
        refused("text(0)", NONE, x -> x.text(0));
        refused("text(1)", NONE, x -> x.text(1));
    }

    private static void refusedWithoutTown() {
        for (int what = 0; what <= 6; what++) {
            int asked = what;
            refused("person(0, " + what + ")", THROWN, x -> asked(x, 0, asked));
            refused("bell(0, " + what + ")", NONE, x -> x.bell(0, asked));
        }
        for (int what = 0; what <= 3; what++) {
            int asked = what;
            refused("set(0, " + what + ", 0)", 0, x -> bit(x.set(0, asked, 0)));
        }
        refused("set(0, 3, NONE)", 0, x -> bit(x.set(0, 3, NONE)));
        refused("fog(0)", NONE, x -> x.fog(0));
        refused("go(1)", NONE, x -> x.go(1));
        refused("undo()", NONE, ShyBell::undo);
        refused("ahead(0, 1, 0)", NONE, x -> x.ahead(0, 1, 0));
        refused("strike(0, 0)", NONE, x -> x.strike(0, 0));
        refused("late(0, 1)", NONE, x -> x.late(0, 1));
        refused("bunch(0, 1)", NONE, x -> x.bunch(0, 1));
        refused("ears(0, 1)", NONE, x -> x.ears(0, 1));
        refused("seen(1, 0)", NONE, x -> x.seen(1, 0));
        refused("seen(1, 1)", NONE, x -> x.seen(1, 1));
        refused("turn(1)", NONE, x -> x.turn(1));
        refused("stare(1)", NONE, x -> x.stare(1));
        refused("lovers(0, 1, 1, 0)", HIDDEN, x -> x.lovers(0, 1, 1, 0));
        refused("spoil(1, 0)", NONE, x -> x.spoil(1, 0));
        refused("errand(0, 1, 0)", NONE, x -> x.errand(0, 1, 0));
        refused("note(0, true)", NONE, x -> x.note(0, true));
        refused("times(NONE)", NONE, x -> x.times(NONE));
        refused("times(0)", NONE, x -> x.times(0));
        refused("whose(0, NONE)", NONE, x -> x.whose(0, NONE));
        refused("odds(1)", NONE, x -> x.odds(1));
        refused("peak(0, 1, 0)", NONE, x -> x.peak(0, 1, 0));
        refused("free(0)", NONE, x -> x.free(0));
        refused("alone(0, 1)", NONE, x -> x.alone(0, 1));
        refused("hour(0, 0)", NONE, x -> x.hour(0, 0));
        refused("veil(1, 0)", NONE, x -> x.veil(1, 0));
        refused("image()", NONE, ShyBell::image);
        refused("back()", NONE, ShyBell::back);
    }

    private static void rich() {
        from("a TOWN of three PERSONS and two BELLS", RefusedTest::richTown);
        for (int sort : new int[] {-1, 2, LEAST, MOST}) {
            refused("fault(" + sort + ")", -2, x -> x.fault(sort));
            refused("text(" + sort + ")", NONE, x -> x.text(sort));
        }
        refused("text(0) of a FAULT", NONE, x -> x.text(0));
        refused("text(1) of a FAULT", NONE, x -> x.text(1));
        for (int n : new int[] {-1, 10, 160, LEAST, MOST}) {
            refused("end(" + n + ")", 0, x -> bit(x.end(n)));
        }
        for (int v : new int[] {-1, 101, LEAST, MOST}) {
            refused("risk(" + v + ")", 0, x -> bit(x.risk(v)));
        }
        for (int minute : new int[] {-1, -60, LEAST}) {
            refused("fog(" + minute + ")", NONE, x -> x.fog(minute));
        }
        for (int minute : new int[] {-1, 61, LEAST, MOST}) {
            refused("note(" + minute + ")", NONE, x -> x.note(minute, true));
        }
        for (int i : new int[] {-2, 480, LEAST, MOST}) {
            refused("times(" + i + ")", NONE, x -> x.times(i));
            refused("whose(0, " + i + ")", NONE, x -> x.whose(0, i));
        }
        for (int what : new int[] {-1, 8, LEAST, MOST}) {
            refused("count(" + what + ")", HIDDEN, x -> x.count(what));
        }
        for (int n : new int[] {0, -1, 11, LEAST, MOST}) {
            refused("odds(" + n + ")", NONE, x -> x.odds(n));
        }
        for (int i : new int[] {-1, 240, LEAST, MOST}) {
            refused("strike(0, " + i + ")", NONE, x -> x.strike(0, i));
            refused("hour(0, " + i + ")", NONE, x -> x.hour(0, i));
        }
        noSuchPersons();
        noSuchBells();
        noSuchMinutes();
        noSuchWhat();
        setOutOfBounds();
        withAHabit();
    }

    private static void noSuchPersons() {
        for (int person : NO_PERSONS) {
            for (int what = 0; what <= 6; what++) {
                int asked = what;
                refused("person(" + person + ", " + what + ")", THROWN, x -> asked(x, person, asked));
            }
            for (int what = 0; what <= 3; what++) {
                int asked = what;
                refused("set(" + person + ", " + what + ", 1)", 0, x -> bit(x.set(person, asked, 1)));
            }
            refused("set(" + person + ", 3, NONE)", 0, x -> bit(x.set(person, 3, NONE)));
            refused("ears(" + person + ", 9)", NONE, x -> x.ears(person, 9));
            refused("lovers(" + person + ", 0)", HIDDEN, x -> x.lovers(person, 0, 9, 0));
            refused("lovers(0, " + person + ")", HIDDEN, x -> x.lovers(0, person, 9, 1));
            refused("lovers(" + person + " twice)", HIDDEN, x -> x.lovers(person, person, 9, 1));
            refused("errand(" + person + ")", NONE, x -> x.errand(person, 9, 0));
            refused("whose(" + person + ", NONE)", NONE, x -> x.whose(person, NONE));
            refused("whose(" + person + ", 0)", NONE, x -> x.whose(person, 0));
            refused("alone(" + person + ", 9)", NONE, x -> x.alone(person, 9));
        }
        for (int person = 0; person < 3; person++) {
            int alike = person;
            refused("lovers(" + person + " alike)", HIDDEN, x -> x.lovers(alike, alike, 9, 0));
        }
    }

    private static void noSuchBells() {
        for (int bell : NO_BELLS) {
            for (int what = 0; what <= 4; what++) {
                int asked = what;
                refused("bell(" + bell + ", " + what + ")", NONE, x -> x.bell(bell, asked));
            }
            refused("ahead(" + bell + ", 9, 0)", NONE, x -> x.ahead(bell, 9, 0));
            refused("ahead(" + bell + ", 9, 1)", NONE, x -> x.ahead(bell, 9, 1));
            refused("strike(" + bell + ", 0)", NONE, x -> x.strike(bell, 0));
            refused("late(" + bell + ", 9)", NONE, x -> x.late(bell, 9));
            refused("bunch(" + bell + ", 9)", NONE, x -> x.bunch(bell, 9));
            refused("peak(" + bell + ", 9, 0)", NONE, x -> x.peak(bell, 9, 0));
            refused("peak(" + bell + ", 9, 1)", NONE, x -> x.peak(bell, 9, 1));
            refused("free(" + bell + ")", NONE, x -> x.free(bell));
            refused("hour(" + bell + ", 0)", NONE, x -> x.hour(bell, 0));
        }
    }

    private static void noSuchMinutes() {
        for (int n : NO_MINUTES) {
            refused("go(" + n + ")", NONE, x -> x.go(n));
            refused("late(0, " + n + ")", NONE, x -> x.late(0, n));
            refused("bunch(0, " + n + ")", NONE, x -> x.bunch(0, n));
            refused("ears(0, " + n + ")", NONE, x -> x.ears(0, n));
            refused("turn(" + n + ")", NONE, x -> x.turn(n));
            refused("stare(" + n + ")", NONE, x -> x.stare(n));
            refused("alone(0, " + n + ")", NONE, x -> x.alone(0, n));
            for (int what = 0; what <= 1; what++) {
                int asked = what;
                refused("ahead(0, " + n + ", " + what + ")", NONE, x -> x.ahead(0, n, asked));
                refused("seen(" + n + ", " + what + ")", NONE, x -> x.seen(n, asked));
                refused("lovers(0, 1, " + n + ", " + what + ")", HIDDEN, x -> x.lovers(0, 1, n, asked));
                refused("spoil(" + n + ", " + what + ")", NONE, x -> x.spoil(n, asked));
                refused("errand(0, " + n + ", " + what + ")", NONE, x -> x.errand(0, n, asked));
                refused("peak(0, " + n + ", " + what + ")", NONE, x -> x.peak(0, n, asked));
                refused("veil(" + n + ", " + what + ")", NONE, x -> x.veil(n, asked));
            }
        }
    }

    private static void noSuchWhat() {
        for (int what : NO_WHAT) {
            refused("ahead(0, 9, " + what + ")", NONE, x -> x.ahead(0, 9, what));
            refused("seen(9, " + what + ")", NONE, x -> x.seen(9, what));
            refused("lovers(0, 1, 9, " + what + ")", HIDDEN, x -> x.lovers(0, 1, 9, what));
            refused("spoil(9, " + what + ")", NONE, x -> x.spoil(9, what));
            refused("errand(0, 9, " + what + ")", NONE, x -> x.errand(0, 9, what));
            refused("peak(0, 9, " + what + ")", NONE, x -> x.peak(0, 9, what));
            refused("veil(9, " + what + ")", NONE, x -> x.veil(9, what));
        }
        for (int what : new int[] {-1, 7, 8, LEAST, MOST}) {
            refused("person(0, " + what + ")", THROWN, x -> asked(x, 0, what));
        }
        for (int what : new int[] {-1, 5, 6, LEAST, MOST}) {
            refused("bell(0, " + what + ")", NONE, x -> x.bell(0, what));
        }
    }

    private static void setOutOfBounds() {
        int[] least = {0, 0, 1, NONE};
        int[] most = {59, 60, 60, 1};
        for (int person = 0; person < 3; person++) {
            int one = person;
            for (int i = 0; i <= 3; i++) {
                int what = i;
                for (int v : new int[] {least[i] - 1, most[i] + 1, LEAST, MOST}) {
                    refused("set(" + one + ", " + what + ", " + v + ")", 0, x -> bit(x.set(one, what, v)));
                }
            }
            for (int what : new int[] {-1, 4, 5, 6, LEAST, MOST}) {
                refused("set(" + one + ", " + what + ", 1)", 0, x -> bit(x.set(one, what, 1)));
                refused("set(" + one + ", " + what + ", NONE)", 0, x -> bit(x.set(one, what, NONE)));
            }
        }
    }

    private static void withAHabit() {
        for (int what = 0; what <= 1; what++) {
            int asked = what;
            refused("errand of one with a HABIT", NONE, x -> x.errand(1, 9, asked));
        }
        for (int i = -1; i <= 1; i++) {
            int which = i;
            refused("whose of one with a HABIT", NONE, x -> x.whose(1, which));
        }
    }

    private static void full() {
        from("20 NOTED, four HABITS, a TAPE of 160", () -> {
            ShyBell x = richTown();
            x.end(0);
            habit(x, "y:1");
            habit(x, "y:2-o");
            while (x.count(6) < 20) {
                x.note(x.count(6), false);
            }
            tape(x, "y:1+" + many("1", 3) + many(" ", 152) + "+");
            return x;
        });
        due("its TAPE", start.made().count(3), 160);
        for (int minute : new int[] {0, 30, 60, 61, -1}) {
            refused("note(" + minute + ", true)", NONE, x -> x.note(minute, true));
            refused("note(" + minute + ", false)", NONE, x -> x.note(minute, false));
        }
        refused("a byte", NONE, x -> x.feed(0, 0, 0, 0, 1));
        refused("a byte", NONE, x -> x.feed(LEAST, 0, 0, 0, 0));
        refused("twenty bytes", NONE, x -> x.feed(-1, -1, -1, -1, -1));
        refused("no bytes", 160, x -> x.feed(0, 0, 0, 0, 0));
        refused("end(161)", 0, x -> bit(x.end(161)));
        refused("end(160)", 1, x -> bit(x.end(160)));
        refused("set(0, 3, 4)", 0, x -> bit(x.set(0, 3, 4)));
        refused("text(1) of a FAULT", NONE, x -> x.text(1));
        from("four HABITS, a TAPE that would be one", () -> {
            ShyBell x = richTown();
            x.end(0);
            habit(x, "y:1");
            habit(x, "y:2-o");
            tape(x, "y:t>0?1");
            return x;
        });
        refused("text(1)", NONE, x -> x.text(1));
        refused("text(0)", NONE, x -> x.text(0));
        for (int length = 141; length <= 159; length++) {
            int had = length;
            from("a TAPE of " + had, () -> {
                ShyBell x = town("p;b");
                tape(x, "p;b" + many(" ", had - 3));
                return x;
            });
            refused("twenty more", NONE, x -> x.feed(-1, -1, -1, -1, -1));
            refused("one too many", NONE, x -> fed(x, 161 - had));
        }
    }

    /** So many bytes at once. */
    private static int fed(ShyBell x, int bytes) {
        int[] n = new int[5];
        for (int i = 0; i < bytes; i++) {
            n[4 - i % 5] = n[4 - i % 5] << 8 | 'p';
        }
        return x.feed(n[0], n[1], n[2], n[3], n[4]);
    }

    private static void bare() {
        from("no FOG, nothing went by", () -> town("p;b"));
        refused("undo", NONE, ShyBell::undo);
        refused("back", NONE, ShyBell::back);
        refused("veil(9, 0)", NONE, x -> x.veil(9, 0));
        refused("veil(9, 1)", NONE, x -> x.veil(9, 1));
        refused("BELL 1", NONE, x -> x.bell(1, 0));
        refused("PERSON 1", THROWN, x -> asked(x, 1, 0));
        refused("no HABITS", 0, x -> bit(x.set(0, 3, 0)));
        refused("a text of nothing", NONE, x -> x.text(0));
        refused("a HABIT of nothing", NONE, x -> x.text(1));
        from("all UNDONE", () -> {
            ShyBell x = town("pl0;b");
            x.risk(50);
            x.go(100);
            for (int i = 0; i < 60; i++) {
                x.undo();
            }
            return x;
        });
        refused("undo", NONE, ShyBell::undo);
        from("an IMAGE of another TOWN", () -> {
            ShyBell x = town("pl0;b");
            x.go(30);
            x.image();
            tape(x, "p;b");
            x.text(0);
            x.go(5);
            return x;
        });
        refused("back", NONE, ShyBell::back);
        from("BACK", () -> {
            ShyBell x = town("pl0;b");
            x.go(30);
            x.image();
            x.go(9);
            x.back();
            return x;
        });
        refused("undo", NONE, ShyBell::undo);
    }

    private static void asked() {
        from("what is only asked", RefusedTest::richTown);
        for (int n : new int[] {1, 9, 240}) {
            asked("late", x -> x.late(0, n));
            asked("bunch", x -> x.bunch(1, n));
            asked("ears", x -> x.ears(2, n));
            asked("turn", x -> x.turn(n));
            asked("stare", x -> x.stare(n));
            asked("alone", x -> x.alone(0, n));
            for (int what = 0; what <= 1; what++) {
                int which = what;
                asked("ahead", x -> x.ahead(0, n, which));
                asked("seen", x -> x.seen(n, which));
                asked("lovers", x -> x.lovers(0, 2, n, which));
                asked("spoil", x -> x.spoil(n, which));
                asked("errand", x -> x.errand(2, n, which));
                asked("peak", x -> x.peak(1, n, which));
                asked("veil", x -> x.veil(n, which));
            }
        }
        for (int i = -1; i <= 1; i++) {
            int which = i;
            asked("strike", x -> x.strike(0, which));
            asked("times", x -> x.times(which));
            asked("whose", x -> x.whose(0, which));
            asked("hour", x -> x.hour(1, which));
        }
        for (int what = 0; what <= 7; what++) {
            int which = what;
            asked("person", x -> asked(x, 2, which));
            asked("bell", x -> x.bell(0, which));
            asked("count", x -> x.count(which));
        }
        asked("fault of a TOWN", x -> x.fault(0));
        asked("fault of a HABIT", x -> x.fault(1));
        asked("fog", x -> x.fog(MOST));
        asked("odds", x -> x.odds(10));
        asked("free", x -> x.free(0));
        asked("all of the TAPE", x -> bit(x.end(9)));
        asked("no bytes", x -> x.feed(0, 0, 0, 0, 0));
        asked("the RISK that it is", x -> bit(x.risk(35)));
        asked("the FROM that it is", x -> bit(x.set(0, 0, 3)));
        asked("the HABIT that it is", x -> bit(x.set(1, 3, 0)));
        asked("a HABIT, and none again", x -> bit(x.set(0, 3, 1) && x.set(0, 3, NONE)));
    }

    private static void asked(String name, Call call) {
        ShyBell x = start.made();
        call.on(x);
        same(name, x);
    }
}
