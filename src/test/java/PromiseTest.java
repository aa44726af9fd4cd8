import java.math.BigInteger;

/** For each promise what the document tells of it, its edges, and what is refused; the answers are worked out by hand. */
public final class PromiseTest extends Check {
    public static void main(String[] args) {
        newObject();
        feed();
        end();
        townFaults();
        townLimits();
        habitFaults();
        habitNesting();
        text();
        textForgets();
        person();
        worth();
        conditions();
        letters();
        habitInPlaceOfSpan();
        bell();
        twelve();
        fog();
        set();
        risk();
        seed();
        go();
        undo();
        ahead();
        strike();
        late();
        bunch();
        ears();
        seen();
        turn();
        stare();
        lovers();
        spoil();
        errand();
        note();
        times();
        whose();
        odds();
        peak();
        free();
        alone();
        hour();
        veil();
        image();
        back();
        count();
        apart();
        finish("promises");
    }

    private static void newObject() {
        at("promise 1");
        ShyBell x = new ShyBell();
        for (int what = 0; what <= 7; what++) {
            due("count(" + what + ") of a new one", x.count(what), 0);
        }
        personThrows(x, 0, 0);
        due("bell", x.bell(0, 0), NONE);
        due("fog", x.fog(0), NONE);
        due("set", x.set(0, 0, 0), false);
        due("go", x.go(1), NONE);
        due("undo", x.undo(), NONE);
        due("ahead", x.ahead(0, 1, 0), NONE);
        due("strike", x.strike(0, 0), NONE);
        due("late", x.late(0, 1), NONE);
        due("bunch", x.bunch(0, 1), NONE);
        due("ears", x.ears(0, 1), NONE);
        due("seen", x.seen(1, 0), NONE);
        due("turn", x.turn(1), NONE);
        due("stare", x.stare(1), NONE);
        due("lovers", x.lovers(0, 1, 1, 0), HIDDEN);
        due("spoil", x.spoil(1, 0), NONE);
        due("errand", x.errand(0, 1, 0), NONE);
        due("note", x.note(0, true), NONE);
        due("times", x.times(NONE), NONE);
        due("whose", x.whose(0, NONE), NONE);
        due("odds", x.odds(1), NONE);
        due("peak", x.peak(0, 1, 0), NONE);
        due("free", x.free(0), NONE);
        due("alone", x.alone(0, 1), NONE);
        due("hour", x.hour(0, 0), NONE);
        due("veil", x.veil(1, 0), NONE);
        due("image", x.image(), NONE);
        due("back", x.back(), NONE);
        due("risk without a TOWN", x.risk(5), true);
        due("seed without a TOWN", x.seed(5L), true);
    }

    private static void feed() {
        at("promise 2");
        ShyBell x = new ShyBell();
        due("nothing", x.feed(0, 0, 0, 0, 0), 0);
        due("bytes of 0 left out", x.feed(0x70003b00, 0, 0x00000062, 0, 0), 3);
        due("in their order: p;b", x.fault(0), NONE);
        due("bytes above 127", x.feed(-1, 0, 0, 0, 0x80000000), 8);
        due("they count as bytes", x.fault(0), 3);
        x.end(0);
        for (int i = 1; i <= 7; i++) {
            due("twenty more", x.feed(0x20202020, 0x20202020, 0x20202020, 0x20202020, 0x20202020), 20 * i);
        }
        due("159", x.feed(0x20202020, 0x20202020, 0x20202020, 0x20202020, 0x20202000), 159);
        due("161", x.feed(0x20200000, 0, 0, 0, 0), NONE);
        due("nothing came", x.count(3), 159);
        due("160", x.feed(0, 0, 0, 0, 0x20), 160);
        due("none more", x.feed(0, 0, 0, 0, 0), 160);
        due("one more", x.feed(1, 0, 0, 0, 0), NONE);
        due("still 160", x.count(3), 160);
        due("its end", x.fault(0), 160);
        for (int i = 0; i < 5; i++) {
            int[] n = new int[5];
            n[i] = 0x70707070;
            x.end(157);
            due("four more in number " + i, x.feed(n[0], n[1], n[2], n[3], n[4]), NONE);
            due("nothing came", x.count(3), 157);
            n[i] = 0x70007070;
            due("three more in number " + i, x.feed(n[0], n[1], n[2], n[3], n[4]), 160);
        }
    }

    private static void end() {
        at("promise 3");
        ShyBell x = new ShyBell();
        due("all of none", x.end(0), true);
        due("one of none", x.end(1), false);
        tape(x, "p;bh9;;");
        due("too many", x.end(8), false);
        due("below 0", x.end(-1), false);
        due("least", x.end(LEAST), false);
        due("still all", x.count(3), 7);
        due("all", x.end(7), true);
        due("wrong yet", x.fault(0), 6);
        due("first five", x.end(5), true);
        due("five", x.count(3), 5);
        due("right now", x.fault(0), NONE);
        due("gone is gone", x.end(6), false);
    }

    private static void townFaults() {
        at("promise 4");
        fault(-1, "", -2);
        fault(2, "p;b", -2);
        fault(0, "", 0);
        fault(0, "  ", 2);
        fault(0, "p;b", NONE);
        fault(0, " p ; b ", NONE);
        fault(0, "b;g;p", NONE);
        fault(0, "p", 1);
        fault(0, "b ", 2);
        fault(0, "g;b", 3);
        fault(0, "p;g", 3);
        fault(0, "p;b;", 4);
        fault(0, "p;;b", 2);
        fault(0, ";p;b", 0);
        fault(0, "p b", 2);
        fault(0, "P;b", 0);
        fault(0, "p;y", 2);
        fault(0, "pf;b", 2);
        fault(0, "pf", 2);
        fault(0, "p f ", 4);
        fault(0, "pf-1;b", 2);
        fault(0, "p1;b", 1);
        fault(0, "pf1 2;b", 4);
        fault(0, "pf1f", 3);
        fault(0, "pf1l2q3d4;b", NONE);
        fault(0, "pd4 q 3 l 2 f 1;b", NONE);
        fault(0, "pf1l2q3d4d", 9);
        fault(0, "pf1;pf1;b", NONE);
        fault(0, "pv1", 1);
        fault(0, "ph", 1);
        fault(0, "gd1", 1);
        fault(0, "gf1l2q3v4;p;b", NONE);
        fault(0, "bf1", 1);
        fault(0, "bh10k1r0;p", NONE);
        fault(0, "bk0k", 3);
        fault(0, "p;b\t", 3);
    }

    private static void townLimits() {
        at("promise 4");
        String[] bounds = {"p f 0 59", "p l 0 60", "p q 1 60", "p d 0 9",
            "g f 0 59", "g l 0 60", "g q 1 60", "g v 0 9", "b h 5 60", "b k 0 1", "b r 0 9"};
        for (String bound : bounds) {
            String[] parts = bound.split(" ");
            String ahead = "p;b;".replace("b".equals(parts[0]) ? ";b" : " ", "") + parts[0] + parts[1];
            int least = Integer.parseInt(parts[2]);
            int most = Integer.parseInt(parts[3]);
            fault(0, ahead + least, NONE);
            fault(0, ahead + most, NONE);
            fault(0, ahead + "0" + Math.min(most, 9), NONE);
            fault(0, ahead + (most + 1), ahead.length() + (most > 8 ? 1 : 0));
            if (least > 0) {
                fault(0, ahead + (least - 1), ahead.length());
                fault(0, ahead + (least - 1) + " ", ahead.length());
                fault(0, ahead + "00;", ahead.length() + 1);
            }
            fault(0, ahead + "001", ahead.length() + 2);
            fault(0, ahead + "999", ahead.length() + 2);
            fault(0, ahead + "1000", ahead.length() + 2);
        }
        fault(0, "p;p;p;p;p;p;b", NONE);
        fault(0, "p;p;p;p;p;p;p;b", 12);
        fault(0, "p;b;b", NONE);
        fault(0, "b;b;b", 4);
        fault(0, "p;b;g;g", 6);
        fault(0, "p;p;p;p;p;p;g;b;b", NONE);
        fault(0, "p;p;p;p;p;p;g;b;b; p", 19);
    }

    private static void habitFaults() {
        at("promise 4");
        fault(1, "", 0);
        fault(1, "y", 1);
        fault(1, "y:", 2);
        fault(1, "y:1", NONE);
        fault(1, " y : 1 ", NONE);
        fault(1, "y1", 1);
        fault(1, "p:1", 0);
        fault(1, "y:1;", 4);
        fault(1, "y:1;y:2", NONE);
        fault(1, "y:1y", 3);
        fault(1, "y:1234", NONE);
        fault(1, "y:0000", NONE);
        fault(1, "y:12345", 6);
        fault(1, "y:00000", 6);
        fault(1, "y:1 2", 4);
        fault(1, "y:-1", 2);
        fault(1, "y:1+", 4);
        fault(1, "y:1+-1", 4);
        fault(1, "y:t+h-m*o/d+p", NONE);
        fault(1, "y:x", 2);
        fault(1, "y:tt", 3);
        fault(1, "y:[1+2]*3", NONE);
        fault(1, "y:[1", 4);
        fault(1, "y:[]", 3);
        fault(1, "y:[1)", 4);
        fault(1, "y:1]", 3);
        fault(1, "y:[1=1]", 4);
        fault(1, "y:1=1", 5);
        fault(1, "y:1=1;", 5);
        fault(1, "y:1=1?", 6);
        fault(1, "y:1=1?2", NONE);
        fault(1, "y:1=1?2=2", 7);
        fault(1, "y:1=1?2?", 7);
        fault(1, "y:1?2", 3);
        fault(1, "y:1&", 3);
        fault(1, "y:1<2<3", 5);
        fault(1, "y:1<2&3>4|5=6?7", NONE);
        fault(1, "y:1<2&3?", 7);
        fault(1, "y:1<2||", 6);
        fault(1, "y:(1<2)?3", NONE);
        fault(1, "y:(1<2)", 7);
        fault(1, "y:(1<2);", 7);
        fault(1, "y:(1)", 4);
        fault(1, "y:(1<2)+1", 7);
        fault(1, "y:((1<2)|!(3=3))&4>5?6", NONE);
        fault(1, "y:(1<2?", 6);
        fault(1, "y:()", 3);
        fault(1, "y:!1", 4);
        fault(1, "y:!1=1?1", NONE);
        fault(1, "y:!?", 3);
        fault(1, "y:1=!1", 4);
        fault(1, "y:1=(1", 4);
        fault(1, "y:1+(1", 4);
        fault(1, "y:1=1&!(1=2)?1", NONE);
        fault(1, "y:1=1?(1", 6);
        fault(1, "y:1=1?!", 6);
        fault(1, "y:1=1)", 5);
        fault(1, "p;b", 0);
    }

    private static void habitNesting() {
        at("promise 4");
        fault(1, "y:" + many("[", 6) + "1" + many("]", 6), NONE);
        fault(1, "y:" + many("[", 7), 8);
        fault(1, "y:" + many("(", 6) + "1=1" + many(")", 6) + "?1", NONE);
        fault(1, "y:" + many("(", 7), 8);
        fault(1, "y:" + many("!", 6) + "1=1?1", NONE);
        fault(1, "y:" + many("!", 7), 8);
        fault(1, "y:!(!([[1]]=1)&1=1)?1", NONE);
        fault(1, "y:!(!([[[1]]]=1)&1=1)?1", 8);
        fault(1, "y:!(!([[1]]=[[[1]]])&1=1)?1", 14);
        fault(1, "y:" + many("!", 6) + "[1", 8);
        // Beside one another they do not add up.
        fault(1, "y:!1=1&!1=1&!1=1&!1=1&!1=1&!1=1&!1=1&((((((1=1))))))?[1]+[1]+[1]+[1]+[1]+[1]+[1]+[1]", NONE);
        fault(1, "y:!!!1=1&!!!!!!1=1?1", NONE);
    }

    private static void text() {
        at("promise 5");
        ShyBell x = new ShyBell();
        due("a FAULT", x.text(0), NONE);
        tape(x, "p;p;b");
        due("no such sort", x.text(2), NONE);
        due("no such sort", x.text(-1), NONE);
        due("a TOWN is no HABIT", x.text(1), NONE);
        due("the TAPE stays", x.count(3), 5);
        due("PERSONS", x.text(0), 2);
        due("the TAPE is empty", x.count(3), 0);
        for (int i = 0; i < 4; i++) {
            due("HABIT", habit(x, "y:" + i), i);
        }
        due("a fifth one", habit(x, "y:1"), NONE);
        due("the TAPE stays", x.count(3), 3);
        due("HABITS", x.count(2), 4);
        due("a HABIT is no TOWN", x.text(0), NONE);
        due("the TOWN stays", x.count(0), 2);
        ShyBell y = new ShyBell();
        due("a HABIT without a TOWN", habit(y, "y:1"), 0);
        due("a HABIT with a FAULT", habit(y, "y:1+"), NONE);
        due("HABITS", y.count(2), 1);
    }

    private static void textForgets() {
        at("promise 5");
        ShyBell x = town("p;bh10");
        habit(x, "y:0");
        x.set(0, 3, 0);
        x.seed(7);
        x.risk(40);
        x.go(30);
        x.note(3, true);
        x.image();
        tape(x, "pl0;g;bh10;bh7k1;");
        due("refused", x.text(0), NONE);
        due("the MINUTE stays", x.count(4), 30);
        x.end(16);
        due("PERSONS", x.text(0), 1);
        due("MINUTE 0", x.count(4), 0);
        due("owed", x.bell(0, 3), 0);
        due("rung", x.bell(0, 4), 0);
        due("NOTED", x.count(6), 0);
        due("HABITS", x.count(2), 1);
        due("its HABIT", x.person(0, 4), NONE);
        due("UNDONE", x.count(7), 0);
        due("undo", x.undo(), NONE);
        due("the IMAGE", x.back(), NONE);
        due("RISK stays", x.odds(1), 0);
        x.go(12);
        int strangers = strangers(BigInteger.valueOf(7), 40, 30, 12);
        due("RISK and draws stay", x.bell(0, 4), 12 - strangers);
    }

    /** In how many of these MINUTES, behind so many others, there is a STRANGER. */
    private static int strangers(BigInteger seed, int risk, int behind, int minutes) {
        BigInteger x = seed;
        int found = 0;
        for (int i = 0; i < behind + minutes; i++) {
            x = x.multiply(new BigInteger("6364136223846793005")).add(new BigInteger("1442695040888963407"))
                .mod(BigInteger.ONE.shiftLeft(64));
            int draw = x.shiftRight(33).mod(BigInteger.valueOf(100)).intValue();
            found += i >= behind && draw < risk ? 1 : 0;
        }
        return found;
    }

    private static void person() {
        at("promise 6");
        ShyBell x = town("pf3l2q10d4;p;gf4l1v3;b");
        int[] told = {3, 2, 10, 4, NONE, 0, 0};
        int[] untold = {0, 5, 20, 1, NONE, 1, 1};
        for (int what = 0; what <= 6; what++) {
            due("told " + what, x.person(0, what), told[what]);
            due("untold " + what, x.person(1, what), untold[what]);
        }
        x.go(3);
        due("LOOKS in MINUTE 3", x.person(0, 5), 1);
        due("SEES in MINUTE 3", x.person(0, 6), 1);
        x.go(1);
        due("LOOKS in FOG", x.person(0, 5), 1);
        due("SEES not in FOG", x.person(0, 6), 0);
        due("SEES in FOG, near", x.person(1, 6), 1);
        x.go(1);
        due("LOOKS no longer", x.person(0, 5), 0);
        due("LOOKS no longer", x.person(1, 5), 0);
        personThrows(x, -1, 0);
        personThrows(x, 2, 0);
        personThrows(x, MOST, 0);
        personThrows(x, LEAST, 0);
        personThrows(x, 0, -1);
        personThrows(x, 0, 7);
        personThrows(x, 0, MOST);
        ShyBell y = town("pf59l1q60;pf5l60q1;pl0q1;b");
        due("a FROM ahead: the rest is 0 and more", y.person(0, 5), 0);
        due("LONG past PERIOD", y.person(1, 5), 1);
        due("LONG 0", y.person(2, 5), 0);
        ShyBell z = town("pf18l5q20;b");
        due("on across MINUTE 0", z.person(0, 5), 1);
        z.go(3);
        due("off in MINUTE 3", z.person(0, 5), 0);
    }

    /** Whether PERSON 0 LOOKS by this HABIT in this MINUTE; BELL 0 has an HOUR of 10. */
    private static boolean looksBy(String text, int minute) {
        ShyBell x = town("pd3l0;pl0d7;bh10;bh5k1");
        due("number of " + text, habit(x, text), 0);
        x.set(1, 3, 0);
        if (minute > 0) {
            x.go(minute);
        }
        x.set(0, 3, 0);
        return x.person(0, 5) == 1;
    }

    private static void isWorth(String sum, int minute, int want) {
        String told = want < 0 ? "0-" + worthText(-want) : worthText(want);
        due(sum + " = " + want + " in " + minute, looksBy("y:" + sum + "=" + told + "?1", minute), true);
    }

    private static String worthText(int v) {
        return v < 10000 ? "" + v : v / 1000 + "*1000+" + v % 1000;
    }

    private static void worth() {
        at("promise 5");
        due("0", looksBy("y:0", 0), false);
        due("1", looksBy("y:1", 0), true);
        due("below 0", looksBy("y:1-2", 0), false);
        isWorth("2+3*4", 0, 14);
        isWorth("[2+3]*4", 0, 20);
        isWorth("10-3-2", 0, 5);
        isWorth("10-[3-2]", 0, 9);
        isWorth("100/10/5", 0, 2);
        isWorth("100/[10/5]", 0, 50);
        isWorth("7/2*2", 0, 6);
        isWorth("[0-7]/2", 0, -3);
        isWorth("7/[0-2]", 0, -3);
        isWorth("[0-7]/[0-2]", 0, 3);
        isWorth("7/0", 0, 0);
        isWorth("[0-7]/[t-t]", 0, 0);
        isWorth("0012", 0, 12);
        due("at most", looksBy("y:9999*9999=1000*1000?1", 0), true);
        due("at most, then less", looksBy("y:9999*9999-1=1000*999+999?1", 0), true);
        due("at least", looksBy("y:[0-9999]*9999=0-1000*1000?1", 0), true);
        due("at least, then more", looksBy("y:[0-9999]*9999+1=0-1000*999-999?1", 0), true);
        due("at most behind +", looksBy("y:9999*100+9999+9999*100-9999*100-9999=1?1", 0), false);
        due("1,000,000 + 5 - 5", looksBy("y:1000*1000+5-5=1000*1000-5?1", 0), true);
    }

    private static void conditions() {
        at("promise 5");
        due("holds", looksBy("y:1=1?1", 0), true);
        due("holds not: 0 without", looksBy("y:1=2?1", 0), false);
        due("the first that holds", looksBy("y:1=2?1;y:1=1?0;y:1", 0), false);
        due("the next", looksBy("y:1=2?0;y:1", 0), true);
        due("none behind one without", looksBy("y:0;y:1", 0), false);
        due("below 0 is worth as well", looksBy("y:1=1?0-1;y:1", 0), false);
        due("<", looksBy("y:1<2?1", 0), true);
        due("< alike", looksBy("y:2<2?1", 0), false);
        due(">", looksBy("y:2>1?1", 0), true);
        due("> alike", looksBy("y:2>2?1", 0), false);
        due("& ahead of |", looksBy("y:1=1|1=1&1=2?1", 0), true);
        due("& ahead of |", looksBy("y:1=2&1=1|1=1?1", 0), true);
        due("( )", looksBy("y:(1=1|1=1)&1=2?1", 0), false);
        due("&", looksBy("y:1=1&1=2?1", 0), false);
        due("|", looksBy("y:1=2|1=3?1", 0), false);
        due("!", looksBy("y:!1=2?1", 0), true);
        due("! of the UNIT alone", looksBy("y:!1=2&1=2?1", 0), false);
        due("! of ( )", looksBy("y:!(1=2&1=2)?1", 0), true);
        due("!!", looksBy("y:!!1=2?1", 0), false);
        due("much that waits", looksBy("y:" + many("1=2|1=1&(", 5) + "0=0+1*[0+1*0]" + many(")", 5) + "?1", 0), true);
        due("SUMS compared", looksBy("y:1+1=4-2&2*3>10/2?1", 0), true);
    }

    private static void letters() {
        at("promise 6");
        for (int minute : new int[] {0, 1, 9, 10, 25, 240}) {
            isWorth("t", minute, minute);
            isWorth("h", minute, minute / 10);
            isWorth("m", minute, minute % 10);
            isWorth("d", minute, 3);
            isWorth("p", minute, 0);
        }
        // Nobody LOOKS (1 = 2 never holds), and BELL 0 rings each MINUTE what it owes; the vain BELL 1 owes on.
        due("o in MINUTE 0, ahead of the 12 due", looksBy("y:1=2?1;y:o=0&t=0?1", 0), true);
        due("o in MINUTE 1", looksBy("y:t=1&o=11?1", 1), true);
        due("o in MINUTE 10, ahead of the 1 due", looksBy("y:t=10&o=2?1", 10), true);
        due("o in MINUTE 11", looksBy("y:t=11&o=2?1", 11), true);
        ShyBell x = town("pd3;pd5;b");
        habit(x, "y:p=1&d=5?1");
        x.set(0, 3, 0);
        x.set(1, 3, 0);
        due("p and d of PERSON 0", x.person(0, 5), 0);
        due("p and d of PERSON 1", x.person(1, 5), 1);
    }

    private static void habitInPlaceOfSpan() {
        at("promise 9");
        ShyBell x = town("p;bh10");
        habit(x, "y:t=5?1");
        due("LOOKS by its span", x.person(0, 5), 1);
        x.set(0, 3, 0);
        due("LOOKS not by its HABIT", x.person(0, 5), 0);
        due("rings in 0 to 4 and from 6", x.ahead(0, 8, 1), 7);
        x.set(0, 3, NONE);
        due("LOOKS by its span again", x.person(0, 5), 1);
    }

    private static void bell() {
        at("promise 7");
        ShyBell x = town("p;bh7k1r3;b");
        int[] told = {7, 1, 3, 0, 0};
        int[] untold = {20, 0, 9, 0, 0};
        for (int what = 0; what <= 4; what++) {
            due("told " + what, x.bell(0, what), told[what]);
            due("untold " + what, x.bell(1, what), untold[what]);
        }
        x.go(8);
        due("the vain one rang in 0 to 4", x.bell(0, 4), 5);
        due("the vain one owes 12 + 1 - 5", x.bell(0, 3), 8);
        due("the shy one rang in 5 to 7", x.bell(1, 4), 3);
        due("the shy one owes", x.bell(1, 3), 9);
        due("no such BELL", x.bell(2, 0), NONE);
        due("no such BELL", x.bell(-1, 0), NONE);
        due("no such BELL", x.bell(LEAST, 0), NONE);
        due("no such what", x.bell(0, 5), NONE);
        due("no such what", x.bell(0, -1), NONE);
    }

    private static void twelve() {
        at("promise 12");
        ShyBell x = town("pl60q1;bh5");
        int owed = 0;
        for (int hour = 0; hour <= 26; hour++) {
            x.go(1);
            owed += hour % 12 == 0 ? 12 : hour % 12;
            due("owed in full HOUR " + hour, x.bell(0, 3), owed);
            x.go(4);
            due("none due between", x.bell(0, 3), owed);
        }
        due("never rung", x.bell(0, 4), 0);
    }

    private static void fog() {
        at("promise 8");
        ShyBell x = town("p;gf50l20q60v2;b");
        due("on across the PERIOD's end", x.fog(0), 1);
        due("MINUTE 9", x.fog(9), 1);
        due("MINUTE 10", x.fog(10), 0);
        due("MINUTE 49", x.fog(49), 0);
        due("MINUTE 50", x.fog(50), 1);
        due("MINUTE 2147483647 (7 by 60)", x.fog(MOST), 1);
        due("below 0", x.fog(-1), NONE);
        due("least", x.fog(LEAST), NONE);
        ShyBell y = town("g;p;b");
        due("untold: 0", y.fog(0), 1);
        due("untold: 9", y.fog(9), 1);
        due("untold: 10", y.fog(10), 0);
        due("untold: 60", y.fog(60), 1);
        due("no FOG told", town("p;b").fog(0), 0);
    }

    private static void set() {
        at("promise 9");
        ShyBell x = town("p;p;b");
        habit(x, "y:1");
        habit(x, "y:0");
        int[] least = {0, 0, 1, NONE};
        int[] most = {59, 60, 60, 1};
        int[] asked = {0, 1, 2, 4};
        for (int what = 0; what <= 3; what++) {
            due("most " + what, x.set(1, what, most[what]), true);
            due("most " + what, x.person(1, asked[what]), most[what]);
            due("past " + what, x.set(1, what, most[what] + 1), false);
            due("ahead " + what, x.set(1, what, least[what] - 1), false);
            due("MAX " + what, x.set(1, what, MOST), false);
            due("MIN " + what, x.set(1, what, LEAST), false);
            due("still " + what, x.person(1, asked[what]), most[what]);
            due("least " + what, x.set(1, what, least[what]), true);
            due("least " + what, x.person(1, asked[what]), least[what]);
        }
        due("the other one's FROM", x.person(0, 0), 0);
        due("the other one's LONG", x.person(0, 1), 5);
        due("DISTANCE", x.set(0, 4, 1), false);
        due("no such what", x.set(0, -1, 1), false);
        due("no such PERSON", x.set(2, 0, 1), false);
        due("no such PERSON", x.set(-1, 0, 1), false);
        ShyBell y = town("pl0;bh10");
        y.go(3);
        y.set(0, 1, 60);
        y.set(0, 2, 60);
        due("what was rung stays", y.bell(0, 4), 3);
        due("from then on", y.ahead(0, 5, 1), 0);
    }

    private static void risk() {
        at("promise 10");
        ShyBell x = town("pl0;bh10");
        due("below 0", x.risk(-1), false);
        due("101", x.risk(101), false);
        x.go(2);
        due("0 at first", x.bell(0, 4), 2);
        due("100", x.risk(100), true);
        x.go(2);
        due("a STRANGER each MINUTE", x.bell(0, 4), 2);
        due("refused", x.risk(MOST), false);
        x.go(2);
        due("still 100", x.bell(0, 4), 2);
        due("0", x.risk(0), true);
        x.go(2);
        due("none again", x.bell(0, 4), 4);
        ShyBell y = town("pl0;bh10k1");
        y.risk(100);
        y.go(3);
        due("a vain BELL rings for STRANGERS", y.bell(0, 4), 3);
    }

    private static void seed() {
        at("promise 11");
        for (long seed : new long[] {0, 1, -1, 12345678901234L, Long.MIN_VALUE, Long.MAX_VALUE}) {
            for (int risk : new int[] {1, 30, 50, 60}) {
                ShyBell x = town("pl0;bh5k1");
                due("seed", x.seed(seed), true);
                x.risk(risk);
                x.go(100);
                BigInteger unsigned = BigInteger.valueOf(seed).mod(BigInteger.ONE.shiftLeft(64));
                due("STRANGERS by seed " + seed + ", RISK " + risk, x.bell(0, 4), strangers(unsigned, risk, 0, 100));
            }
        }
        ShyBell y = town("pl0;bh5k1");
        y.risk(50);
        y.go(50);
        due("0 at first", y.bell(0, 4), strangers(BigInteger.ZERO, 50, 0, 50));
        // No draw without a RISK.
        y.seed(3);
        y.risk(0);
        y.go(20);
        y.risk(50);
        int rung = y.bell(0, 4);
        y.go(30);
        due("draws with a RISK alone", y.bell(0, 4) - rung, strangers(BigInteger.valueOf(3), 50, 0, 30));
        // A draw, even if somebody SEES anyway.
        ShyBell z = town("pl20q60;bh60k1");
        z.seed(9);
        z.risk(50);
        z.go(20);
        due("rung while PERSON 0 SEES", z.bell(0, 4), 12);
        z.go(40);
        z.set(0, 1, 0);
        rung = z.bell(0, 4);
        z.go(1);
        due("the 61st draw", z.bell(0, 4) - rung, strangers(BigInteger.valueOf(9), 50, 60, 1));
    }

    private static void go() {
        at("promise 12");
        ShyBell x = town("p;bh10;bh10k1");
        due("0", x.go(0), NONE);
        due("-1", x.go(-1), NONE);
        due("241", x.go(241), NONE);
        due("MAX", x.go(MOST), NONE);
        due("nothing went by", x.count(4), 0);
        due("1", x.go(1), 1);
        due("the shy one", x.bell(0, 4), 0);
        due("the vain one", x.bell(1, 4), 1);
        due("240", x.go(240), 241);
        ShyBell y = town("pd5;gl5v4;bh10;bh10k1");
        y.go(5);
        due("in FOG the shy one rings", y.bell(0, 4), 5);
        due("in FOG the vain one does not", y.bell(1, 4), 0);
        ShyBell z = town("pd4;gl5v4;bh10");
        z.go(5);
        due("DISTANCE no more than VIEW", z.bell(0, 4), 0);
        // Both ring in one MINUTE: BELL 0 is shy, and so is BELL 1.
        ShyBell both = town("pl0;bh10;bh20");
        both.go(1);
        due("BELL 0", both.bell(0, 4), 1);
        due("BELL 1", both.bell(1, 4), 1);
    }

    private static void undo() {
        at("promise 13");
        ShyBell x = town("pl0;bh10");
        due("none", x.undo(), NONE);
        x.seed(4);
        x.risk(50);
        x.go(100);
        int rung = x.bell(0, 4);
        int owed = x.bell(0, 3);
        due("the latest 60", x.count(7), 60);
        for (int i = 1; i <= 60; i++) {
            due("undone", x.undo(), 100 - i);
            due("fewer", x.count(7), 60 - i);
        }
        due("no more", x.undo(), NONE);
        due("MINUTE 40", x.count(4), 40);
        due("rung behind 40", x.bell(0, 4), town100(40).bell(0, 4));
        due("owed behind 40", x.bell(0, 3), town100(40).bell(0, 3));
        due("again", x.go(60), 100);
        due("the same draws: rung", x.bell(0, 4), rung);
        due("the same draws: owed", x.bell(0, 3), owed);
        x.undo();
        x.undo();
        x.go(1);
        due("59 of them", x.count(7), 59);
        x.set(0, 1, 60);
        x.undo();
        due("what was set stays", x.person(0, 1), 60);
    }

    private static ShyBell town100(int n) {
        ShyBell x = town("pl0;bh10");
        x.seed(4);
        x.risk(50);
        x.go(n);
        return x;
    }

    private static void ahead() {
        at("promise 14");
        ShyBell x = town("p;bh10;bh10k1");
        due("owed behind 1", x.ahead(0, 1, 0), 12);
        due("rung behind 1", x.ahead(0, 1, 1), 0);
        due("owed behind 10", x.ahead(0, 10, 0), 7);
        due("owed by the vain one", x.ahead(1, 10, 0), 7);
        due("rung by the vain one", x.ahead(1, 21, 1), 6);
        due("240: what is due in full HOURS 0 to 23", x.ahead(0, 240, 0) + x.ahead(0, 240, 1), 2 * (12 + 66));
        due("0", x.ahead(0, 0, 0), NONE);
        due("241", x.ahead(0, 241, 0), NONE);
        due("no such BELL", x.ahead(2, 1, 0), NONE);
        due("no such BELL", x.ahead(-1, 1, 0), NONE);
        due("no such what", x.ahead(0, 1, 2), NONE);
        due("no such what", x.ahead(0, 1, -1), NONE);
        x.go(9);
        due("rung from now on alone", x.ahead(0, 3, 1), 3);
        due("owed from now on", x.ahead(0, 3, 0), 6);
        x.risk(100);
        due("without STRANGERS", x.ahead(0, 3, 1), 3);
    }

    private static void strike() {
        at("promise 15");
        ShyBell x = town("p;bh10");
        due("first", x.strike(0, 0), 5);
        due("twelfth", x.strike(0, 11), 16);
        x.go(6);
        due("from now", x.strike(0, 0), 0);
        due("12 + 1 - 1 owed; the thirteenth in MINUTE 25", x.strike(0, 12), 19);
        due("below 0", x.strike(0, -1), NONE);
        due("never so many", x.strike(0, MOST), NONE);
        due("no such BELL", x.strike(1, 0), NONE);
        due("no such BELL", x.strike(-1, 0), NONE);
        // Due but once in 60 MINUTES: 12, 1, 2, 3 strikes; the last three ring from 180 on.
        ShyBell y = town("pl0;bh60");
        due("the eighteenth", y.strike(0, 17), 182);
        due("not within 240", y.strike(0, 18), NONE);
        y.go(1);
        due("MINUTE 240 is the 239th from now", y.strike(0, 17), 239);
    }

    private static void late() {
        at("promise 16");
        ShyBell x = town("p;bh10;bh10k1");
        due("behind 1", x.late(0, 1), 12);
        due("behind 5", x.late(0, 5), 60);
        due("behind 10: 60 + 11 + 10 + 9 + 8 + 7", x.late(0, 10), 105);
        due("the vain one: 11 + 10 + 9 + 8 + 7 + 7", x.late(1, 6), 52);
        due("0", x.late(0, 0), NONE);
        due("241", x.late(0, 241), NONE);
        due("no such BELL", x.late(2, 1), NONE);
        due("no such BELL", x.late(-1, 1), NONE);
        x.go(8);
        due("what is owed already", x.late(0, 1), 8);
        ShyBell y = town("pl60q1;bh60");
        due("240: 60 times 12, 13, 15, 18", y.late(0, 240), 60 * (12 + 13 + 15 + 18));
    }

    private static void bunch() {
        at("promise 17");
        ShyBell x = town("pf3l1q60;bh20;bh20k1");
        due("three", x.bunch(0, 3), 3);
        due("cut in MINUTE 3", x.bunch(0, 4), 3);
        due("4 to 12", x.bunch(0, 20), 9);
        due("the later one is no longer", x.bunch(0, 25), 9);
        due("the vain one", x.bunch(1, 240), 1);
        due("none", x.bunch(1, 3), 0);
        due("0", x.bunch(0, 0), NONE);
        due("241", x.bunch(0, 241), NONE);
        due("no such BELL", x.bunch(2, 1), NONE);
        due("no such BELL", x.bunch(-1, 1), NONE);
    }

    private static void ears() {
        at("promise 18");
        ShyBell x = town("pl2d3;pl0d4;bh10r3;bh10k1r9");
        due("both", x.ears(0, 4), 4);
        due("too far from BELL 0", x.ears(1, 4), 2);
        due("240: all rings", x.ears(0, 240), x.ahead(0, 240, 1) + x.ahead(1, 240, 1));
        due("0", x.ears(0, 0), NONE);
        due("241", x.ears(0, 241), NONE);
        due("no such PERSON", x.ears(2, 1), NONE);
        due("no such PERSON", x.ears(-1, 1), NONE);
    }

    private static void seen() {
        at("promise 19");
        ShyBell x = town("p;pf7l3q20d2;gf8l1v1;b");
        due("0 to 4, 7, 9", x.seen(20, 0), 7);
        due("10 to 19", x.seen(20, 1), 10);
        due("5, 6", x.seen(8, 1), 2);
        due("8 in FOG", x.seen(9, 1), 2);
        due("never dark", x.seen(5, 1), 0);
        due("0", x.seen(0, 0), NONE);
        due("241", x.seen(241, 0), NONE);
        due("no such what", x.seen(1, 2), NONE);
        due("no such what", x.seen(1, -1), NONE);
        x.go(10);
        due("none seen", x.seen(10, 0), 0);
    }

    private static void turn() {
        at("promise 20");
        ShyBell x = town("pl20;pl20;pl20;bh20");
        due("all of them", x.turn(12), 7);
        due("too few MINUTES", x.turn(11), NONE);
        due("0", x.turn(0), NONE);
        due("241", x.turn(241), NONE);
        ShyBell y = town("pl0;pf5l1q60;pf6l1q60;bh60");
        due("either of two: the least", y.turn(13), 2);
        due("both", y.turn(12), 6);
        due("none has to", y.turn(14), 0);
        // The vain one owes nothing, if somebody LOOKS in 12 MINUTES; to turn away is of no use.
        due("a vain BELL", town("pl12q60;bh60k1").turn(12), 0);
        due("a vain BELL", town("pl11q60;bh60k1").turn(12), NONE);
        // PERSON 1 LOOKS once the BELL has rung twice: without PERSON 0 it is PERSON 1 that hinders.
        ShyBell z = town("pl60q1;p;bh20");
        habit(z, "y:o>0&o<11?1");
        z.set(1, 3, 0);
        due("HABITS change with what is owed", z.turn(12), 3);
    }

    private static void stare() {
        at("promise 21");
        ShyBell x = town("pl0;pl0;bh20");
        due("one: the least", x.stare(5), 1);
        due("0", x.stare(0), NONE);
        due("241", x.stare(241), NONE);
        x.go(12);
        due("nothing is owed", x.stare(8), 0);
        due("in MINUTE 20", x.stare(9), 1);
        ShyBell y = town("pl0d5;pl0d2;gl3q60v3;bh20");
        due("near enough in FOG", y.stare(5), 2);
        ShyBell z = town("pl0d5;pl0d4;gl3q60v3;bh20");
        due("it can't be in FOG", z.stare(5), NONE);
        due("a vain BELL", town("p;bk1").stare(5), NONE);
        due("a vain BELL unseen", town("pl0;bk1").stare(240), 0);
    }

    private static void lovers() {
        at("promise 22");
        ShyBell x = town("p;pf3l4q20;b");
        due("first", x.lovers(0, 1, 20, 0), 7);
        due("how many", x.lovers(0, 1, 20, 1), 13);
        due("either way round", x.lovers(1, 0, 20, 1), 13);
        due("none within 7", x.lovers(0, 1, 7, 0), NONE);
        due("none within 7", x.lovers(0, 1, 7, 1), 0);
        due("alike", x.lovers(0, 0, 7, 0), HIDDEN);
        due("no such PERSON", x.lovers(0, 2, 7, 0), HIDDEN);
        due("no such PERSON", x.lovers(-1, 1, 7, 0), HIDDEN);
        due("0", x.lovers(0, 1, 0, 0), HIDDEN);
        due("241", x.lovers(0, 1, 241, 0), HIDDEN);
        due("no such what", x.lovers(0, 1, 1, 2), HIDDEN);
        due("no such what", x.lovers(0, 1, 1, -1), HIDDEN);
        x.go(8);
        due("the next MINUTE", x.lovers(0, 1, 1, 0), 0);
        // LOOKS, not SEES: FOG is of no use to them.
        due("in FOG", town("pl60q1d9;pl0;gl60v0;b").lovers(0, 1, 9, 1), 0);
    }

    private static void spoil() {
        at("promise 23");
        ShyBell x = town("pl1q60;pf1l4q60;bh20");
        due("PERSON", x.spoil(10, 0), 1);
        due("LATE: 12, then 11 to 3", x.spoil(10, 1), 75);
        due("of several the lowest", town("pl0;pl0;b").spoil(9, 0), 0);
        due("0", x.spoil(0, 0), NONE);
        due("241", x.spoil(241, 0), NONE);
        due("no such what", x.spoil(9, 2), NONE);
        due("no such what", x.spoil(9, -1), NONE);
        // Without PERSON 1 the vain BELL never rings.
        ShyBell y = town("pl0;pl60q1;pl0;bh60k1");
        due("the vain one rings on", y.spoil(3, 0), 0);
        due("11 + 10 + 9", y.spoil(3, 1), 30);
    }

    private static void errand() {
        at("promise 24");
        ShyBell x = town("pl5q60;bh60");
        due("behind the twelve", x.errand(0, 20, 0), 12);
        due("11 + 10 + .. + 0", x.errand(0, 20, 1), 66);
        due("FROM stays", x.person(0, 0), 0);
        due("of several the least", x.errand(0, 1, 0), 1);
        due("0", x.errand(0, 0, 0), NONE);
        due("241", x.errand(0, 241, 0), NONE);
        due("no such PERSON", x.errand(1, 9, 0), NONE);
        due("no such PERSON", x.errand(-1, 9, 0), NONE);
        due("no such what", x.errand(0, 9, 2), NONE);
        due("no such what", x.errand(0, 9, -1), NONE);
        habit(x, "y:0");
        x.set(0, 3, 0);
        due("it has a HABIT", x.errand(0, 9, 0), NONE);
        x.set(0, 3, NONE);
        due("none again", x.errand(0, 20, 0), 12);
        due("a vain BELL: on in 0 to 4", town("pf30l5q60;bh60k1").errand(0, 5, 0), 0);
        ShyBell y = town("pf30l1q60;bh60k1");
        y.go(59);
        due("FROM 59 for the next MINUTE", y.errand(0, 1, 0), 59);
        due("12 less the one in 30, less one", y.errand(0, 1, 1), 10);
    }

    private static void note() {
        at("promise 25");
        ShyBell x = town("p;b");
        due("below 0", x.note(-1, true), NONE);
        due("61", x.note(61, true), NONE);
        due("none yet", x.count(6), 0);
        due("0", x.note(0, true), 1);
        due("60", x.note(60, false), 2);
        for (int i = 3; i <= 20; i++) {
            due("again is one more", x.note(60, false), i);
        }
        due("a 21st", x.note(5, true), NONE);
        due("20", x.count(6), 20);
    }

    private static void times() {
        at("promise 26");
        ShyBell x = town("p;bh10");
        due("nothing NOTED", x.times(NONE), 480);
        due("the first", x.times(0), 0);
        due("the last", x.times(479), 479);
        due("no such one", x.times(480), NONE);
        due("no such one", x.times(-2), NONE);
        due("no such one", x.times(LEAST), NONE);
        x.note(0, true);
        x.note(1, false);
        due("the first end of ringing", x.times(0), 17);
        int before = x.times(NONE);
        x.go(33);
        x.risk(100);
        due("from MINUTE 0 anyway", x.times(NONE), before);
        due("from MINUTE 0 anyway", x.times(0), 17);
        x.note(60, true);
        x.note(60, false);
        due("never", x.times(NONE), 0);
        due("never", x.times(0), NONE);
        // A vain BELL that owes ever more and is seen but in MINUTES 59, 119 .. 539.
        ShyBell y = town("pf59l1q60;bh60k1");
        y.note(60, true);
        due("how many, 60 ahead of these", y.times(NONE), 8);
        due("the first", y.times(0), 59);
        due("the last, by MINUTE 539", y.times(7), 479);
    }

    private static void whose() {
        at("promise 27");
        ShyBell x = town("pl5q60;pl0;bh60");
        due("nothing NOTED", x.whose(0, NONE), 60);
        x.note(0, true);
        x.note(1, true);
        x.note(2, false);
        due("2 alone", x.whose(0, NONE), 1);
        due("2 alone", x.whose(0, 0), 2);
        due("no such one", x.whose(0, 1), NONE);
        due("no such one", x.whose(0, -2), NONE);
        due("no such PERSON", x.whose(2, NONE), NONE);
        due("no such PERSON", x.whose(-1, NONE), NONE);
        due("not the other one", x.whose(1, NONE), 0);
        x.go(1);
        due("from now: 3 alone", x.whose(0, 0), 3);
        due("FROM stays", x.person(0, 0), 0);
        habit(x, "y:0");
        x.set(0, 3, 0);
        due("it has a HABIT", x.whose(0, NONE), NONE);
        // MINUTE 60 from now: the strike due then, if PERSON 0 does not LOOK.
        ShyBell y = town("pl1q60;bh60");
        y.note(60, false);
        due("looks in MINUTE 60, as in 0", y.whose(0, NONE), 1);
        due("FROM 0", y.whose(0, 0), 0);
    }

    private static void odds() {
        at("promise 28");
        ShyBell x = town("pl0;bh60");
        due("0", x.odds(0), NONE);
        due("-1", x.odds(-1), NONE);
        due("11", x.odds(11), NONE);
        due("twelve are owed", x.odds(10), 0);
        x.go(10);
        due("two MINUTES, no RISK", x.odds(2), 1000000000);
        due("one MINUTE", x.odds(1), 0);
        x.risk(30);
        due("both without STRANGERS", x.odds(2), 490000000);
        due("one of three at most", x.odds(3), 784000000);
        x.risk(100);
        due("always STRANGERS", x.odds(10), 0);
        x.risk(33);
        long parts = 0;
        for (int bits = 0; bits < 1024; bits++) {
            long part = 1000000000;
            for (int k = 0; k < 10; k++) {
                long strange = part * 33 / 100;
                part = (bits >> k & 1) != 0 ? strange : part - strange;
            }
            parts += Integer.bitCount(bits) <= 8 ? part : 0;
        }
        due("each part cut apart", x.odds(10), parts);
        due("nothing drawn", x.count(4), 10);
        ShyBell y = town("pl0;bh60k1");
        y.risk(25);
        due("a vain BELL needs STRANGERS", y.odds(10), 0);
        ShyBell z = town("pl11q60;bh60k1");
        z.go(11);
        z.risk(25);
        due("one is owed yet", z.odds(1), 250000000);
        due("one is owed yet", z.odds(2), 437500000);
    }

    private static void peak() {
        at("promise 29");
        ShyBell x = town("pf5l55q60;bh20");
        due("most", x.peak(0, 20, 0), 11);
        due("first behind 1", x.peak(0, 20, 1), 1);
        ShyBell y = town("pl60q1;bh10");
        due("most", y.peak(0, 35, 0), 18);
        due("first behind 31", y.peak(0, 35, 1), 31);
        due("12 behind 1", y.peak(0, 1, 0), 12);
        due("0", y.peak(0, 0, 0), NONE);
        due("241", y.peak(0, 241, 0), NONE);
        due("no such BELL", y.peak(1, 1, 0), NONE);
        due("no such BELL", y.peak(-1, 1, 0), NONE);
        due("no such what", y.peak(0, 1, 2), NONE);
        due("no such what", y.peak(0, 1, -1), NONE);
        ShyBell z = town("pl0;bh60");
        z.go(20);
        due("nothing owed", z.peak(0, 9, 0), 0);
        due("first behind 1", z.peak(0, 9, 1), 1);
    }

    private static void free() {
        at("promise 30");
        ShyBell x = town("pl0;bh60;bh60k1");
        due("behind 12", x.free(0), 12);
        due("never", x.free(1), NONE);
        due("no such BELL", x.free(2), NONE);
        due("no such BELL", x.free(-1), NONE);
        x.go(30);
        due("at once", x.free(0), 1);
        // Behind MINUTE 239 the 12 and 1 and 2 and 3 are rung, if it is dark from 222 on.
        ShyBell y = town("pl60q1;bh60");
        y.go(240);
        y.set(0, 1, 0);
        due("18 and 4 due at once", y.free(0), 22);
        ShyBell z = town("pl1q60;bh60");
        z.set(0, 3, habit(z, "y:228-t"));
        due("behind 240 all 18 would take till 245", z.free(0), NONE);
        habit(z, "y:222-t");
        z.set(0, 3, 1);
        due("behind 240", z.free(0), 240);
    }

    private static void alone() {
        at("promise 31");
        ShyBell x = town("p;pf3l4q20;pf20l1q40d5;gf20l1v4;b");
        due("0 to 2", x.alone(0, 20), 3);
        due("5, 6", x.alone(1, 20), 2);
        due("20: the third one is in FOG", x.alone(0, 21), 4);
        due("the third one", x.alone(2, 21), 0);
        due("0", x.alone(0, 0), NONE);
        due("241", x.alone(0, 241), NONE);
        due("no such PERSON", x.alone(3, 1), NONE);
        due("no such PERSON", x.alone(-1, 1), NONE);
    }

    private static void hour() {
        at("promise 32");
        ShyBell x = town("p;bh10;bk1h10");
        due("the next MINUTE is a full HOUR", x.hour(0, 0), 16);
        due("one more", x.hour(0, 1), 17);
        x.go(1);
        due("the next one is MINUTE 10", x.hour(0, 0), 16);
        due("the vain one: 11 and 1 are owed; 4, 5, 3 rung", x.hour(1, 0), 41);
        due("below 0", x.hour(0, -1), NONE);
        due("least", x.hour(0, LEAST), NONE);
        due("never so far", x.hour(0, MOST), NONE);
        due("no such BELL", x.hour(2, 0), NONE);
        due("no such BELL", x.hour(-1, 0), NONE);
        ShyBell y = town("pl0;bh60");
        due("12", y.hour(0, 0), 11);
        due("MINUTE 60", y.hour(0, 1), 60);
        due("MINUTES 180 to 182", y.hour(0, 3), 182);
        due("MINUTE 240 is not within", y.hour(0, 4), NONE);
        y.go(4);
        due("4 from MINUTE 240 end in 243", y.hour(0, 3), 239);
        y.undo();
        due("not within 240", y.hour(0, 3), NONE);
        due("never rung", town("pl60q1;b").hour(0, 0), NONE);
    }

    private static void veil() {
        at("promise 33");
        ShyBell x = town("pl60q1d5;pl60q1d3;gl60q60v9;bh60");
        due("VIEW", x.veil(12, 0), 0);
        due("LATE: 11 + .. + 0", x.veil(12, 1), 66);
        due("VIEW stays", x.count(5), 9);
        ShyBell y = town("pl60q1d5;pl60q1d3;gl60q60v0;bh60k1");
        due("a vain BELL: the least VIEW by which one SEES", y.veil(12, 0), 3);
        due("LATE", y.veil(12, 1), 66);
        ShyBell far = town("pl60q1d9;gl60q60v0;bh60k1");
        due("VIEW 9", far.veil(3, 0), 9);
        due("no FOG is told", town("p;b").veil(12, 0), NONE);
        due("0", x.veil(0, 0), NONE);
        due("241", x.veil(241, 0), NONE);
        due("no such what", x.veil(12, 2), NONE);
        due("no such what", x.veil(12, -1), NONE);
    }

    private static void image() {
        at("promise 34");
        ShyBell x = town("pl0;bh10");
        due("MINUTE 0", x.image(), 0);
        x.go(5);
        due("MINUTE 5", x.image(), 5);
        x.go(7);
        due("instead of the one ahead", x.back(), 5);
        due("MINUTES can be UNDONE behind an image", town("p;b").count(7), 0);
        x.go(2);
        x.image();
        due("an IMAGE leaves them", x.count(7), 2);
    }

    private static void back() {
        at("promise 35");
        ShyBell x = town("pl0;bh10");
        due("none", x.back(), NONE);
        x.seed(6);
        x.risk(50);
        x.go(3);
        x.image();
        x.go(30);
        int rung = x.bell(0, 4);
        int owed = x.bell(0, 3);
        x.note(1, true);
        x.set(0, 1, 1);
        x.set(0, 1, 0);
        due("MINUTE 3", x.back(), 3);
        due("MINUTE 3", x.count(4), 3);
        due("rung in three", x.bell(0, 4), 3 - strangers(BigInteger.valueOf(6), 50, 0, 3));
        due("owed", x.bell(0, 3), 9 + strangers(BigInteger.valueOf(6), 50, 0, 3));
        due("none can be UNDONE", x.count(7), 0);
        due("none can be UNDONE", x.undo(), NONE);
        due("NOTED stays", x.count(6), 1);
        x.go(30);
        due("the same draws: rung", x.bell(0, 4), rung);
        due("the same draws: owed", x.bell(0, 3), owed);
        due("once more", x.back(), 3);
        x.go(5);
        due("and on", x.undo(), 7);
    }

    private static void count() {
        at("promise 36");
        ShyBell x = town("p;p;p;gv4;b;b");
        habit(x, "y:1");
        tape(x, "abc");
        x.go(70);
        x.note(1, true);
        int[] want = {3, 2, 1, 3, 70, 4, 1, 60};
        for (int what = 0; what < want.length; what++) {
            due("count(" + what + ")", x.count(what), want[what]);
        }
        due("no FOG", town("p;b").count(5), NONE);
        due("FOG untold", town("p;b;g").count(5), 0);
        due("others", x.count(8), HIDDEN);
        due("others", x.count(-1), HIDDEN);
        due("others", x.count(LEAST), HIDDEN);
        due("NONE", ShyBell.NONE, NONE);
        due("HIDDEN", ShyBell.HIDDEN, HIDDEN);
    }

    /** What is only asked changes nothing. */
    private static void apart() {
        at("promise 14");
        ShyBell x = town("p;pf3l2;gv4;bh10;bh7k1");
        ShyBell y = town("p;pf3l2;gv4;bh10;bh7k1");
        for (ShyBell each : new ShyBell[] {x, y}) {
            each.seed(3);
            each.risk(20);
            each.go(13);
            each.note(4, true);
        }
        x.ahead(0, 9, 0);
        x.strike(1, 3);
        x.late(0, 9);
        x.bunch(1, 9);
        x.ears(0, 9);
        x.seen(9, 0);
        x.turn(9);
        x.stare(9);
        x.lovers(0, 1, 9, 0);
        x.spoil(9, 0);
        x.errand(0, 9, 0);
        x.times(0);
        x.whose(0, 0);
        x.odds(9);
        x.peak(0, 9, 0);
        x.free(0);
        x.alone(0, 9);
        x.hour(0, 2);
        x.veil(9, 0);
        x.person(0, 5);
        for (int i = 0; i < 2; i++) {
            for (int what = 0; what < 5; what++) {
                due("BELL 0 apart", x.bell(0, what), y.bell(0, what));
                due("BELL 1 apart", x.bell(1, what), y.bell(1, what));
                due("PERSON 0 apart", x.person(0, what), y.person(0, what));
            }
            for (int what = 0; what < 8; what++) {
                due("count apart", x.count(what), y.count(what));
            }
            due("go apart", x.go(40), y.go(40));
        }
    }
}
