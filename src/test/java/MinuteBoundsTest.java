import java.math.BigInteger;

/** Sections 2 to 4 of the document, sentence by sentence: what goes by at each bound and past it. */
public final class MinuteBoundsTest extends Check {
    private static final int PARTS = 1000000000;

    public static void main(String[] args) {
        minutesFromZero();
        spans();
        spansOfFog();
        habitInPlaceOfSpan();
        lettersOfMinutes();
        lettersOfBellZero();
        lettersOfPersons();
        viewOfFog();
        strikesDue();
        owesSoManyMore();
        ringsWhatItOwes();
        bothMay();
        heard();
        riskBounds();
        drawBelowRisk();
        drawsGoOn();
        noDrawWithoutRisk();
        drawSeenOrNot();
        strangersInFog();
        latestSixty();
        undoneRoundAndRound();
        undoneDraws();
        setFromThenOn();
        ahead();
        strike();
        late();
        bunch();
        ears();
        seen();
        dark();
        turn();
        stare();
        habitsInTrials();
        lovers();
        spoil();
        errand();
        noted();
        times();
        whose();
        odds();
        oddsCut();
        oddsOfWhatIsDue();
        image();
        peak();
        free();
        alone();
        hours();
        veil();
        newTown();
        apartFromEachOther();
        count();
        finish("bounds of minutes");
    }

    private static ShyBell gone(String text, int minutes) {
        ShyBell x = town(text);
        pass(x, minutes);
        return x;
    }

    private static void pass(ShyBell x, int minutes) {
        for (int left = minutes; left > 0; left -= 240) {
            due("go", x.go(Math.min(left, 240)) > 0, true);
        }
    }

    private static void take(ShyBell x, int person, String text) {
        due("set to " + text, x.set(person, 3, habit(x, text)), true);
    }

    private static void minutesFromZero() {
        at("MINUTES go from 0 on; go: 1 .. 240");
        ShyBell x = town("p;b");
        due("the next MINUTE", x.count(4), 0);
        due("go(0)", x.go(0), NONE);
        due("go(241)", x.go(241), NONE);
        due("still", x.count(4), 0);
        due("go(1)", x.go(1), 1);
        due("go(240)", x.go(240), 241);
        due("go(239)", x.go(239), 480);
        for (int i = 0; i < 500; i++) {
            x.go(240);
        }
        due("500 times 240 more", x.count(4), 480 + 500 * 240);
    }

    /** Whether a span is on, told otherwise: step by step down to the rest. */
    private static int on(int minute, int from, int along, int period) {
        int rest = minute + 60 * period - from;
        while (rest >= period) {
            rest -= period;
        }
        return rest < along ? 1 : 0;
    }

    private static void spans() {
        at("A span is on, if the rest of the MINUTE less FROM by PERIOD (0 and more) is below LONG");
        for (int from : new int[] {0, 1, 30, 59}) {
            for (int along : new int[] {0, 1, 30, 59, 60}) {
                for (int period : new int[] {1, 2, 30, 31, 59, 60}) {
                    ShyBell x = town("pf" + from + "l" + along + "q" + period + ";b");
                    for (int minute = 0; minute <= 121; minute++) {
                        due("f" + from + "l" + along + "q" + period + " in " + minute, asked(x, 0, 5),
                            on(minute, from, along, period));
                        x.go(1);
                    }
                }
            }
        }
    }

    private static void spansOfFog() {
        at("FOG (while that span is on)");
        for (int from : new int[] {0, 1, 59}) {
            for (int along : new int[] {0, 1, 59, 60}) {
                for (int period : new int[] {1, 2, 59, 60}) {
                    ShyBell x = town("p;gf" + from + "l" + along + "q" + period + ";b");
                    for (int minute = 0; minute <= 121; minute++) {
                        due("f" + from + "l" + along + "q" + period + " in " + minute, x.fog(minute),
                            on(minute, from, along, period));
                    }
                }
            }
        }
        due("the last MINUTE of all", town("p;gf7l1;b").fog(MOST), 1);
        due("the last MINUTE of all", town("p;gf8l59;b").fog(MOST), 0);
        due("without FOG", town("p;b").fog(MOST), 0);
        due("below 0", town("p;g;b").fog(-1), NONE);
    }

    private static void habitInPlaceOfSpan() {
        at("if its span is on, or, with a HABIT, if the WORTH of that is above 0");
        ShyBell x = town("pl60q1;pl0;b");
        take(x, 0, "y:t-3");
        take(x, 1, "y:t-3");
        for (int minute = 0; minute < 6; minute++) {
            due("span on, MINUTE " + minute, asked(x, 0, 5), minute > 3 ? 1 : 0);
            due("span off, MINUTE " + minute, asked(x, 1, 5), minute > 3 ? 1 : 0);
            x.go(1);
        }
    }

    private static void lettersOfMinutes() {
        at("t the MINUTE, h how many full HOURS of BELL 0 there were, m MINUTES since the last of these");
        for (int hour : new int[] {5, 7, 59, 60}) {
            for (int minute : new int[] {0, 1, hour - 1, hour, hour + 1, 2 * hour - 1, 2 * hour, 12 * hour, 13 * hour}) {
                ShyBell x = gone("pl0;bh" + hour + ";bh11", minute);
                take(x, 0, "y:t=" + minute + "&h=" + minute / hour + "&m=" + minute % hour + "?1");
                due("HOUR " + hour + ", MINUTE " + minute, asked(x, 0, 5), 1);
            }
        }
        ShyBell far = town("pl0;bh5");
        for (int i = 0; i < 300; i++) {
            far.go(240);
        }
        take(far, 0, "y:t=72*1000&h=144*100&m=0?1");
        due("MINUTE 72000", asked(far, 0, 5), 1);
    }

    private static void lettersOfBellZero() {
        at("o what BELL 0 owes as the MINUTE begins, ahead of what is due then");
        // Nobody LOOKS but by o: a vain BELL 0 and a shy BELL 1.
        ShyBell x = town("pl0;bh10k1;bh5");
        take(x, 0, "y:o=12?1");
        due("0 in MINUTE 0, though 12 are due", asked(x, 0, 5), 0);
        x.go(1);
        due("12 in MINUTE 1", asked(x, 0, 5), 1);
        x.go(1);
        due("it rang in MINUTE 1", x.bell(0, 4), 1);
        due("BELL 1 rang in MINUTE 0 alone", x.bell(1, 4), 1);
        due("11 in MINUTE 2", asked(x, 0, 5), 0);
        x.go(8);
        due("11 in MINUTE 10, though one is due", asked(x, 0, 5), 0);
        x.go(1);
        due("12 in MINUTE 11", asked(x, 0, 5), 1);
        ShyBell all = town("pl0;bh10k1;bh5");
        take(all, 0, "y:o=12?1");
        due("all at once", all.go(12), 12);
        due("it rang in MINUTES 1 and 11", all.bell(0, 4), 2);
    }

    private static void lettersOfPersons() {
        at("d DISTANCE, p its number");
        ShyBell x = town("pd0l0;pd9l0;pd5l0;pl0;pl0;pl0;b");
        int number = habit(x, "y:1-d*10-p+p*10");
        int[] looks = {1, 0, 0, 1, 1, 1};
        for (int i = 0; i < 6; i++) {
            x.set(i, 3, number);
            // 1 - 10 d + 9 p: 1, -80, -31, 18, 27, 36.
            due("PERSON " + i, asked(x, i, 5), looks[i]);
        }
        for (int i = 0; i < 6; i++) {
            ShyBell y = town("p;p;p;p;p;p;b");
            int which = habit(y, "y:p=" + i + "?1");
            for (int k = 0; k < 6; k++) {
                y.set(k, 3, which);
                due("p of PERSON " + k, asked(y, k, 5), k == i ? 1 : 0);
            }
        }
        for (int d = 0; d <= 9; d++) {
            ShyBell z = town("pl0d" + d + ";b");
            take(z, 0, "y:d=" + d + "?1");
            due("d " + d, asked(z, 0, 5), 1);
        }
    }

    private static void viewOfFog() {
        at("in FOG its DISTANCE is no more than VIEW");
        for (int distance = 0; distance <= 9; distance++) {
            for (int view = 0; view <= 9; view++) {
                ShyBell x = town("pl60q1d" + distance + ";gl1q60v" + view + ";bh60k1");
                int sees = distance <= view ? 1 : 0;
                String what = "d" + distance + " v" + view;
                due("LOOKS, " + what, asked(x, 0, 5), 1);
                due("SEES in FOG, " + what, asked(x, 0, 6), sees);
                due("SEEN, " + what, x.seen(2, 0), sees + 1);
                due("rings ahead, " + what, x.ahead(0, 1, 1), sees);
                x.go(1);
                due("rings, " + what, x.bell(0, 4), sees);
                due("SEES without FOG, " + what, asked(x, 0, 6), 1);
            }
        }
        due("SEES not, if it LOOKS not", asked(town("pl0d0;gv9;b"), 0, 6), 0);
    }

    private static void strikesDue() {
        at("as many as the MINUTE by HOUR, modulo 12 (12 in place of 0)");
        for (int hour : new int[] {5, 13, 60}) {
            ShyBell x = town("pl60q1;bh" + hour);
            int owed = 0;
            int[] strikes = {12, 1, 2, 3, 4, 5, 6, 7, 8, 9, 10, 11, 12, 1, 2, 3, 4, 5, 6, 7, 8, 9, 10, 11, 12, 1};
            for (int k = 0; k < strikes.length; k++) {
                x.go(1);
                owed += strikes[k];
                due("HOUR " + hour + ", full HOUR " + k, x.bell(0, 3), owed);
                due("none due a MINUTE ahead of the next", x.go(hour - 1), (k + 1) * hour);
                due("owed still", x.bell(0, 3), owed);
            }
        }
    }

    private static void owesSoManyMore() {
        at("to each BELL strikes are due: it owes so many more");
        ShyBell x = town("pl60q1;bh5;bh7");
        int[] first = {12, 12, 12, 12, 12, 13, 13, 13, 13, 13, 15, 15};
        int[] second = {12, 12, 12, 12, 12, 12, 12, 13, 13, 13, 13, 13};
        for (int minute = 0; minute < 12; minute++) {
            x.go(1);
            due("BELL 0 behind MINUTE " + minute, x.bell(0, 3), first[minute]);
            due("BELL 1 behind MINUTE " + minute, x.bell(1, 3), second[minute]);
        }
    }

    private static void ringsWhatItOwes() {
        at("A shy BELL that owes some rings one, if nobody SEES the tower; a vain one, if somebody does");
        String[] towns = {"pl0;bh60", "pl60q1;bh60k1"};
        for (String each : towns) {
            ShyBell x = town(each);
            for (int minute = 0; minute < 60; minute++) {
                x.go(1);
                due(each + " rung behind " + minute, x.bell(0, 4), Math.min(minute + 1, 12));
                due(each + " owed behind " + minute, x.bell(0, 3), 12 - Math.min(minute + 1, 12));
            }
            x.go(1);
            due(each + ": what is due is rung in the same MINUTE", x.bell(0, 4), 13);
            due(each + ": none owed", x.bell(0, 3), 0);
        }
        for (String each : new String[] {"pl60q1;bh60", "pl0;bh60k1"}) {
            ShyBell x = gone(each, 61);
            due(each + " rings none", x.bell(0, 4), 0);
            due(each + " owes all", x.bell(0, 3), 13);
        }
    }

    private static void bothMay() {
        at("(Both may.)");
        ShyBell shy = gone("pl0;bh10;bh20", 1);
        due("both shy, unseen", shy.bell(0, 4) + shy.bell(1, 4), 2);
        ShyBell vain = gone("pl60q1;bh10k1;bh20k1", 1);
        due("both vain, seen", vain.bell(0, 4) + vain.bell(1, 4), 2);
        ShyBell one = gone("pl60q1;bh10;bh20k1", 1);
        due("the shy one, seen", one.bell(0, 4), 0);
        due("the vain one, seen", one.bell(1, 4), 1);
        ShyBell other = gone("pl0;bh10;bh20k1", 1);
        due("the shy one, unseen", other.bell(0, 4), 1);
        due("the vain one, unseen", other.bell(1, 4), 0);
    }

    private static void heard() {
        at("HEARD by a PERSON is a strike, if its DISTANCE is no more than REACH");
        for (int distance = 0; distance <= 9; distance++) {
            for (int reach = 0; reach <= 9; reach++) {
                ShyBell x = town("pl0d" + distance + ";bh60r" + reach + ";bh60k1");
                due("d" + distance + " r" + reach, x.ears(0, 20), distance <= reach ? 12 : 0);
            }
        }
    }

    private static void riskBounds() {
        at("a RISK (0 .. 100; 0 at first)");
        ShyBell x = town("pl0;bh60k1");
        x.go(1);
        due("0 at first", x.bell(0, 4), 0);
        for (int refused : new int[] {-1, 101, LEAST, MOST}) {
            due("refused " + refused, x.risk(refused), false);
        }
        x.go(1);
        due("none of them", x.bell(0, 4), 0);
        due("100", x.risk(100), true);
        x.go(3);
        due("in each MINUTE", x.bell(0, 4), 3);
        for (int refused : new int[] {-1, 101}) {
            due("refused " + refused, x.risk(refused), false);
        }
        x.go(3);
        due("still 100", x.bell(0, 4), 6);
        due("0", x.risk(0), true);
        x.go(3);
        due("in none", x.bell(0, 4), 6);
        due("1", x.risk(1), true);
        due("99", x.risk(99), true);
    }

    /** The i-th draw of 100 behind that seed. */
    private static int draw(long seed, int i) {
        BigInteger all = BigInteger.ONE.shiftLeft(64);
        BigInteger x = BigInteger.valueOf(seed).mod(all);
        for (int k = 0; k <= i; k++) {
            x = x.multiply(new BigInteger("6364136223846793005")).add(new BigInteger("1442695040888963407")).mod(all);
        }
        return x.shiftRight(33).mod(BigInteger.valueOf(100)).intValue();
    }

    private static long seed(int i) {
        long[] few = {0, 1, -1, Long.MAX_VALUE, Long.MIN_VALUE, 1L << 32, 1L << 33, -(1L << 33), 99, 100};
        return i < few.length ? few[i] : 7046029254386353131L * i;
    }

    private static void drawBelowRisk() {
        at("if a draw of 100 is below RISK");
        int least = 100;
        int most = 0;
        for (int i = 0; i < 400; i++) {
            int draw = draw(seed(i), 0);
            least = Math.min(least, draw);
            most = Math.max(most, draw);
            for (int more = 0; more <= 1; more++) {
                ShyBell x = town("pl0;bh60k1;bh60");
                x.seed(seed(i));
                x.risk(draw + more);
                x.go(1);
                due("a draw of " + draw + ", RISK " + (draw + more), x.bell(0, 4), more);
                due("the shy one", x.bell(1, 4), 1 - more);
            }
        }
        due("a draw of 0 was there", least, 0);
        due("a draw of 99 was there", most, 99);
    }

    private static void drawsGoOn() {
        at("x becomes x times .. and .. (64 bits, going round)");
        for (int i = 0; i < 20; i++) {
            for (int risk : new int[] {1, 37, 50, 63, 99}) {
                ShyBell x = town("pl0;bh5k1");
                if (i > 0) {
                    x.seed(seed(i));
                }
                x.risk(risk);
                int rung = 0;
                for (int minute = 0; minute < 40; minute++) {
                    x.go(1);
                    // Behind 40 MINUTES 12 + 1 + .. + 7 are due: more than can be rung.
                    rung += draw(seed(i), minute) < risk && rung < dueBy(minute) ? 1 : 0;
                    due("seed " + seed(i) + ", RISK " + risk + ", MINUTE " + minute, x.bell(0, 4), rung);
                }
            }
        }
    }

    /** What an HOUR of 5 made due, with this MINUTE. */
    private static int dueBy(int minute) {
        int sum = 12;
        for (int k = 1; k <= minute / 5; k++) {
            sum += k % 12 == 0 ? 12 : k % 12;
        }
        return sum;
    }

    private static void noDrawWithoutRisk() {
        at("with a RISK above 0");
        for (int i = 0; i < 20; i++) {
            int draw = draw(seed(i), 0);
            for (int more = 0; more <= 1; more++) {
                ShyBell x = town("pl0;bh60k1");
                x.seed(seed(i));
                x.go(7);
                x.risk(0);
                x.go(5);
                x.risk(draw + more);
                x.go(1);
                due("the first draw " + draw + ", RISK " + (draw + more), x.bell(0, 4), more);
            }
        }
    }

    private static void drawSeenOrNot() {
        at("one SEES the tower in a MINUTE that goes by");
        for (int i = 0; i < 20; i++) {
            int draw = draw(seed(i), 1);
            for (int more = 0; more <= 1; more++) {
                ShyBell x = town("pl1q60;bh60k1");
                x.seed(seed(i));
                x.risk(Math.max(1, draw + more));
                x.go(1);
                due("PERSON 0 SEES", x.bell(0, 4), 1);
                x.go(1);
                due("the second draw " + draw + " and " + more, x.bell(0, 4), 1 + (draw == 0 ? 1 : more));
                due("MINUTES 60, 120, 180, 240 by PERSON 0 alone", x.ahead(0, 240, 1), 4);
            }
        }
    }

    private static void strangersInFog() {
        at("a STRANGER SEES in FOG too, by itself");
        ShyBell x = town("pl60q1d1;gl60q60v0;bh60k1");
        x.go(1);
        due("PERSON 0 does not", x.bell(0, 4), 0);
        x.risk(100);
        x.go(2);
        due("STRANGERS do", x.bell(0, 4), 2);
        due("not in what is told apart", x.ahead(0, 5, 1), 0);
        due("nor in person", asked(x, 0, 6), 0);
        due("nor in SEEN", x.seen(9, 0), 0);
    }

    private static void latestSixty() {
        at("MINUTES that went by (the latest 60) can be UNDONE");
        due("none", town("p;b").undo(), NONE);
        for (int n : new int[] {1, 59, 60, 61, 120, 240}) {
            ShyBell x = gone("pf1l3q7;bh10;bh7k1", n);
            int most = Math.min(n, 60);
            due("behind " + n, x.count(7), most);
            for (int i = 1; i <= most; i++) {
                due("undone", x.undo(), n - i);
                due("fewer", x.count(7), most - i);
                if (i == 1 || i >= 59) {
                    alike("behind " + n + " less " + i, x, gone("pf1l3q7;bh10;bh7k1", n - i));
                }
            }
            due("no more", x.undo(), NONE);
            due("MINUTE", x.count(4), n - most);
            alike("behind " + n, x, gone("pf1l3q7;bh10;bh7k1", n - most));
            due("on again", x.go(1), n - most + 1);
            due("one", x.count(7), 1);
        }
    }

    private static void alike(String what, ShyBell x, ShyBell y) {
        due(what + ": MINUTE", x.count(4), y.count(4));
        for (int bell = 0; bell < 2; bell++) {
            due(what + ": owed by " + bell, x.bell(bell, 3), y.bell(bell, 3));
            due(what + ": rung by " + bell, x.bell(bell, 4), y.bell(bell, 4));
        }
    }

    private static void undoneRoundAndRound() {
        at("the latest 60, some undone ahead");
        String text = "pf2l3q9;bh10;bh7k1";
        ShyBell x = gone(text, 60);
        for (int i = 0; i < 30; i++) {
            x.undo();
        }
        due("30 left", x.count(7), 30);
        x.go(29);
        due("59", x.count(7), 59);
        x.go(1);
        due("60", x.count(7), 60);
        x.go(10);
        due("60 at most", x.count(7), 60);
        alike("MINUTE 70", x, gone(text, 70));
        for (int i = 1; i <= 60; i++) {
            due("undone", x.undo(), 70 - i);
            alike("MINUTE " + (70 - i), x, gone(text, 70 - i));
        }
        due("no more", x.undo(), NONE);
        alike("MINUTE 10", x, gone(text, 10));
    }

    private static void undoneDraws() {
        at("UNDONE (draws, too)");
        for (int i = 0; i < 20; i++) {
            int draw = draw(seed(i), 2);
            for (int more = 0; more <= 1; more++) {
                ShyBell x = town("pl0;bh60k1");
                x.seed(seed(i));
                x.risk(1);
                x.go(5);
                x.undo();
                x.undo();
                x.undo();
                int rung = x.bell(0, 4);
                x.risk(Math.max(1, draw + more));
                x.go(1);
                due("the third draw " + draw + " and " + more, x.bell(0, 4) - rung, draw == 0 ? 1 : more);
            }
        }
    }

    private static void setFromThenOn() {
        at("A PERSON can be set otherwise (FROM, LONG, PERIOD), or take a HABIT: from then on");
        ShyBell x = town("pl0;bh60");
        x.go(4);
        x.set(0, 1, 60);
        x.set(0, 2, 60);
        due("rung till then", x.bell(0, 4), 4);
        x.go(4);
        due("no more", x.bell(0, 4), 4);
        take(x, 0, "y:0");
        x.go(3);
        due("by its HABIT", x.bell(0, 4), 7);
        due("none", x.set(0, 3, NONE), true);
        x.go(3);
        due("by its span again", x.bell(0, 4), 7);
        x.set(0, 0, 20);
        x.set(0, 1, 1);
        x.go(5);
        due("by FROM and LONG", x.bell(0, 4), 12);
        due("FROM", asked(x, 0, 0), 20);
        x.undo();
        due("UNDONE is what went by alone", asked(x, 0, 0), 20);
        ShyBell y = town("pl0;bh60");
        due("PERIOD 1", y.set(0, 2, 1), true);
        due("LONG 1 of 1", y.set(0, 1, 1), true);
        due("always", y.ahead(0, 60, 1), 0);
        due("PERIOD 2", y.set(0, 2, 2), true);
        due("each second one", y.ahead(0, 60, 1), 12);
        due("each second one", y.strike(0, 11), 23);
    }

    private static void ahead() {
        at("AHEAD: for n MINUTES (1 .. 240)");
        ShyBell x = town("pl60q1;bh60;bh60k1");
        int[] n = {1, 60, 61, 120, 121, 180, 181, 240};
        int[] owed = {12, 12, 13, 13, 15, 15, 18, 18};
        int[] rung = {1, 12, 13, 13, 14, 15, 16, 18};
        for (int i = 0; i < n.length; i++) {
            due("owed behind " + n[i], x.ahead(0, n[i], 0), owed[i]);
            due("rung in " + n[i], x.ahead(0, n[i], 1), 0);
            due("by the vain one: owed behind " + n[i], x.ahead(1, n[i], 0), owed[i] - rung[i]);
            due("by the vain one: rung in " + n[i], x.ahead(1, n[i], 1), rung[i]);
        }
        due("0", x.ahead(0, 0, 0), NONE);
        due("241", x.ahead(0, 241, 0), NONE);
        ShyBell y = gone("pl60q1;bh5", 240);
        y.set(0, 1, 0);
        due("240 rung in 240", y.ahead(0, 240, 1), 240);
        y.go(240);
        due("240 rung in 240 more", y.ahead(0, 240, 1), 240);
    }

    private static void strike() {
        at("STRIKE: the MINUTE from now (0 the next) .. for the i-th time (from 0; within 240)");
        ShyBell x = town("pl0;bh60;bh60k1");
        int[] at = {0, 1, 2, 3, 4, 5, 6, 7, 8, 9, 10, 11, 60, 120, 121, 180, 181, 182, NONE, NONE};
        for (int i = 0; i < at.length; i++) {
            due("the " + i + "-th", x.strike(0, i), at[i]);
            due("the " + i + "-th of one that never rings", x.strike(1, i), NONE);
        }
        due("-1", x.strike(0, -1), NONE);
        due("240", x.strike(0, 240), NONE);
        due("MAX", x.strike(0, MOST), NONE);
        ShyBell y = gone("pl60q1;bh5", 240);
        y.set(0, 1, 0);
        due("the last of 240", y.strike(0, 239), 239);
        due("one more is not within", y.strike(0, 240), NONE);
    }

    private static void late() {
        at("LATE: what a BELL owes behind each of them together");
        ShyBell x = town("pl60q1;bh60;bh60k1");
        due("1", x.late(0, 1), 12);
        due("60", x.late(0, 60), 720);
        due("61", x.late(0, 61), 733);
        due("240", x.late(0, 240), 60 * (12 + 13 + 15 + 18));
        due("the vain one, 1", x.late(1, 1), 11);
        due("the vain one, 12", x.late(1, 12), 66);
        due("the vain one, 120", x.late(1, 120), 66);
        due("the vain one, 121", x.late(1, 121), 67);
        due("the vain one, 240: 66, 1, 2 and 1", x.late(1, 240), 70);
        due("0", x.late(0, 0), NONE);
        due("241", x.late(0, 241), NONE);
    }

    private static void bunch() {
        at("BUNCH: the most MINUTES one behind the other in which it rings");
        ShyBell x = town("pf1l1q60;bh60;bh60k1");
        int[] n = {1, 2, 3, 4, 5, 12, 13, 14, 240};
        int[] most = {1, 1, 1, 2, 3, 10, 11, 11, 11};
        for (int i = 0; i < n.length; i++) {
            due("in " + n[i], x.bunch(0, n[i]), most[i]);
        }
        due("none", x.bunch(1, 1), 0);
        due("one", x.bunch(1, 240), 1);
        due("0", x.bunch(0, 0), NONE);
        due("241", x.bunch(0, 241), NONE);
        ShyBell y = gone("pl60q1;bh5", 240);
        due("none in 240", y.bunch(0, 240), 0);
        y.set(0, 1, 0);
        due("240", y.bunch(0, 240), 240);
        due("239", y.bunch(0, 239), 239);
        // One in MINUTE 60, two in 120 and 121.
        due("the last two of 13 to 121", gone("pl0;bh60", 13).bunch(0, 109), 2);
        due("cut at the end", gone("pl0;bh60", 13).bunch(0, 108), 1);
    }

    private static void ears() {
        at("EARS: strikes HEARD by a PERSON (of both BELLS)");
        ShyBell x = town("pl1q60d4;pl0d5;bh60r5;bh60k1r4");
        due("1: the vain one", x.ears(0, 1), 1);
        due("2", x.ears(0, 2), 2);
        due("13", x.ears(0, 13), 13);
        due("PERSON 1, too far from the vain one", x.ears(1, 13), 12);
        due("240: 12, 1, 2, 3 of the shy one, 4 of the vain one", x.ears(0, 240), 22);
        due("240, PERSON 1", x.ears(1, 240), 18);
        due("0", x.ears(0, 0), NONE);
        due("241", x.ears(0, 241), NONE);
    }

    private static void seen() {
        at("SEEN: MINUTES in which somebody SEES the tower");
        ShyBell x = town("pf1l1q60;pf1l2q60;b");
        int[] n = {1, 2, 3, 60, 61, 62, 240};
        int[] seen = {0, 1, 2, 2, 2, 3, 8};
        for (int i = 0; i < n.length; i++) {
            due("in " + n[i], x.seen(n[i], 0), seen[i]);
        }
        due("always", town("pl60q1;b").seen(240, 0), 240);
        due("never", town("pl0;b").seen(240, 0), 0);
        due("0", x.seen(0, 0), NONE);
        due("241", x.seen(241, 0), NONE);
    }

    private static void dark() {
        at("DARK: the most of these one behind the other in which nobody does");
        ShyBell x = town("pf1l1q60;b");
        int[] n = {1, 2, 3, 4, 60, 61, 62, 240};
        int[] dark = {1, 1, 1, 2, 58, 59, 59, 59};
        for (int i = 0; i < n.length; i++) {
            due("in " + n[i], x.seen(n[i], 1), dark[i]);
        }
        due("never", town("pl60q1;b").seen(240, 1), 0);
        due("always", town("pl0;b").seen(240, 1), 240);
        due("1", town("pl60q1;b").seen(1, 1), 0);
        due("0", x.seen(0, 1), NONE);
        due("241", x.seen(241, 1), NONE);
    }

    private static void turn() {
        at("TURN: the fewest PERSONS who have to turn away (bits; of several the least)");
        StringBuilder six = new StringBuilder("bh60");
        for (int i = 0; i < 6; i++) {
            six.append(";pf").append(i).append("l1q60");
        }
        // One LOOKS in each of MINUTES 0 to 5: of n MINUTES at most n - 12 may be lost.
        ShyBell x = town(six.toString());
        int[] bits = {NONE, 63, 31, 15, 7, 3, 1, 0};
        for (int n = 11; n <= 18; n++) {
            due("in " + n, x.turn(n), bits[n - 11]);
        }
        due("in 1", x.turn(1), NONE);
        due("in 60", x.turn(60), 0);
        due("in 61: PERSON 0 LOOKS", x.turn(61), 1);
        due("in 240", x.turn(240), 0);
        due("0", x.turn(0), NONE);
        due("241", x.turn(241), NONE);
        ShyBell y = town("pl0;pl0;pl0;pl0;pl0;pl60q1;bh60");
        due("PERSON 5 alone", y.turn(240), 32);
        due("it can't be", y.turn(11), NONE);
        ShyBell z = town("pl60q1;pl1q60;pl60q1;bh60");
        due("PERSONS 0 and 2", z.turn(13), 5);
        due("all three", z.turn(12), 7);
        due("a single one", gone("pl0;bh60", 12).turn(1), 0);
        due("in FOG far ones need not", town("pl60q1d9;pl60q1d2;gl60q60v2;bh60").turn(12), 2);
        due("a vain BELL may need all to LOOK", town("pl12q60;bh60k1").turn(12), 0);
        due("a vain BELL unseen", town("pl0;bh60k1").turn(240), NONE);
    }

    private static void stare() {
        at("STARE: the fewest who have to LOOK in all of them so that BELL 0 rings in none");
        ShyBell x = town("pl0d5;pl0d5;pl0d5;pl0d5;pl0d5;pl0d4;gl60q60v4;bh60");
        due("PERSON 5 alone is near enough", x.stare(1), 32);
        due("PERSON 5 alone", x.stare(240), 32);
        due("0", x.stare(0), NONE);
        due("241", x.stare(241), NONE);
        due("none near enough", town("pl0d5;pl60q1d5;gl60q60v4;bh60").stare(1), NONE);
        due("of several the least", town("pl0;pl0;pl0;bh60").stare(240), 1);
        due("none has to", town("pl60q1;bh60").stare(240), 0);
        ShyBell y = gone("pl0;bh60", 12);
        due("none is owed till MINUTE 59", y.stare(48), 0);
        due("MINUTE 60", y.stare(49), 1);
        due("a vain one that is seen", town("pf5l1q60;pl0;bh60k1").stare(6), NONE);
        due("a vain one, not yet", town("pf5l1q60;pl0;bh60k1").stare(5), 0);
    }

    private static void habitsInTrials() {
        at("HABITS by what BELL 0 owes, apart from as it is");
        ShyBell x = town("pl0;bh60");
        take(x, 0, "y:o-2");
        due("rings but in MINUTE 0", x.ahead(0, 60, 1), 1);
        due("owes 11", x.ahead(0, 60, 0), 11);
        due("LATE", x.late(0, 60), 660);
        due("without it", x.turn(12), 1);
        due("without it", x.spoil(12, 1), 66);
        due("it stares", x.stare(5), 1);
        ShyBell y = town("pl0;p;bh60");
        take(y, 1, "y:2-o");
        // In MINUTE 0 o is 0: it LOOKS; then 12 are owed, and it does not till one is left, MINUTES 1 to 11.
        due("rung in 12", y.ahead(0, 12, 1), 11);
        due("one is left for ever", y.ahead(0, 60, 0), 1);
        due("PERSON 0 is nowhere", y.alone(0, 60), 0);
        due("PERSON 1 LOOKS in 0 and from 12", y.alone(1, 60), 49);
        due("PERSON 1", y.spoil(60, 0), 1);
        due("66 without it", y.spoil(60, 1), 66);
        due("PERSON 1 has to turn away", y.turn(60), 2);
        y.risk(50);
        y.go(1);
        due("the same later on", y.ahead(0, 11, 1), y.bell(0, 3) - 1);
        ShyBell z = town("pl60q1;p;bh60");
        take(z, 1, "y:o-12");
        // While PERSON 0 LOOKS 12 stay owed: PERSON 1 LOOKS not; without PERSON 0 neither.
        due("PERSON 0 alone", z.turn(12), 1);
        due("errand of PERSON 0: LONG of 60 by 1", z.errand(0, 60, 1), 720);
        z.set(0, 2, 60);
        z.set(0, 1, 1);
        due("errand: behind the twelve", z.errand(0, 60, 0), 12);
    }

    private static void lovers() {
        at("LOVERS: the first MINUTE from now in which neither of two PERSONS LOOKS; how many such MINUTES");
        ShyBell x = town("pl60q1;pl0;pl0;b");
        take(x, 0, "y:239-t");
        due("the 239th", x.lovers(0, 1, 240, 0), 239);
        due("one", x.lovers(1, 0, 240, 1), 1);
        due("none in 239", x.lovers(0, 1, 239, 0), NONE);
        due("none in 239", x.lovers(0, 1, 239, 1), 0);
        due("the others: at once", x.lovers(1, 2, 240, 0), 0);
        due("the others: 240", x.lovers(2, 1, 240, 1), 240);
        due("1", x.lovers(1, 2, 1, 1), 1);
        x.go(1);
        due("from now", x.lovers(0, 1, 240, 0), 238);
        due("from now", x.lovers(0, 1, 240, 1), 2);
        due("alike", x.lovers(1, 1, 1, 0), HIDDEN);
        due("0", x.lovers(0, 1, 0, 0), HIDDEN);
        due("241", x.lovers(0, 1, 241, 0), HIDDEN);
    }

    private static void spoil() {
        at("SPOIL: the PERSON without whom LATE of BELL 0 would be least (of several the lowest)");
        ShyBell x = town("pl0;pl0;pl0;pl0;pl0;pl60q1;bh60;bh60k1");
        due("PERSON 5", x.spoil(1, 0), 5);
        due("LATE then", x.spoil(1, 1), 11);
        due("PERSON 5", x.spoil(240, 0), 5);
        due("LATE then: 66, 0, 1, 2 and 1", x.spoil(240, 1), 66 + 1 + 2 + 1);
        due("0", x.spoil(0, 0), NONE);
        due("241", x.spoil(241, 0), NONE);
        ShyBell y = town("pl60q1;pl60q1;bh60");
        due("of several the lowest", y.spoil(9, 0), 0);
        due("LATE then", y.spoil(9, 1), 108);
        due("one alone", town("pl60q1;bh60").spoil(1, 0), 0);
        // The vain one: without PERSON 0 it rings as before, by PERSON 1.
        due("a vain BELL", town("pl60q1;pl1q60;bh60k1").spoil(12, 0), 1);
        due("a vain BELL", town("pl60q1;pl1q60;bh60k1").spoil(12, 1), 66);
    }

    private static void errand() {
        at("ERRAND: FROM (0 .. 59) by which LATE of BELL 0 is least (of several the least)");
        // A vain BELL that is seen in one MINUTE of 60: best in the first of them, in MINUTE now by 60.
        for (int minute : new int[] {0, 1, 30, 58, 59, 60}) {
            ShyBell x = gone("pf7l0q60;bh60k1", minute);
            x.set(0, 1, 1);
            due("FROM in MINUTE " + minute, x.errand(0, 1, 0), minute % 60);
            due("LATE then", x.errand(0, 1, 1), minute < 60 ? 11 : 12);
            due("FROM stays", asked(x, 0, 0), 7);
        }
        ShyBell x = town("pl1q60;pl0;bh60");
        due("in MINUTE 0 alone: the first of all others", x.errand(0, 1, 0), 1);
        due("LATE", x.errand(0, 1, 1), 11);
        due("behind what is rung", x.errand(0, 60, 0), 12);
        due("LATE: 66", x.errand(0, 60, 1), 66);
        due("of several the least: no MINUTE is hindered by 13 and more", x.errand(0, 60, 0), 12);
        due("LONG 0: the least", x.errand(1, 240, 0), 0);
        due("0", x.errand(0, 0, 0), NONE);
        due("241", x.errand(0, 241, 0), NONE);
        // In 240 MINUTES strikes ring in 0 to 11, 60, 120, 121, 180 to 182.
        due("240", x.errand(0, 240, 0), 12);
        due("240: 66, 1, 2 and 1", x.errand(0, 240, 1), 70);
        ShyBell y = town("pl48q60;bh60");
        due("12 to 59", y.errand(0, 60, 0), 12);
        y.set(0, 1, 49);
        due("11 to 59: the twelfth is lost", y.errand(0, 60, 0), 11);
        due("66, and one for 49 MINUTES", y.errand(0, 60, 1), 66 + 49);
    }

    private static void noted() {
        at("NOTED (20 at most): so many MINUTES from a first one (0 .. 60)");
        ShyBell x = town("pl60q1;b");
        due("-1", x.note(-1, false), NONE);
        due("61", x.note(61, false), NONE);
        due("least", x.note(LEAST, false), NONE);
        due("most", x.note(MOST, false), NONE);
        due("none of them", x.count(6), 0);
        for (int i = 1; i <= 19; i++) {
            due("NOTED", x.note(i % 2 == 0 ? 60 : 0, false), i);
            due("NOTED counted", x.count(6), i);
        }
        due("nothing rings: all fit", x.times(NONE), 480);
        due("the twentieth", x.note(30, true), 20);
        due("the twentieth counts", x.times(NONE), 0);
        due("a twenty-first", x.note(30, false), NONE);
        due("a twenty-first out of bounds", x.note(61, false), NONE);
        due("still 20", x.count(6), 20);
    }

    private static void times() {
        at("TIMES: first MINUTES (0 .. 479) by which all NOTED was so: how many, the i-th");
        // A vain BELL that is seen in MINUTES 59, 119 .. 479, 539 alone, and owes ever more.
        int[] minutes = {0, 1, 59, 60};
        int[] first = {59, 58, 0, 59};
        int[] many = {8, 8, 8, 8};
        int[] last = {479, 478, 420, 479};
        for (int i = 0; i < minutes.length; i++) {
            ShyBell x = gone("pf59l1q60;bh60k1", 100);
            x.note(minutes[i], true);
            due("how many by " + minutes[i], x.times(NONE), many[i]);
            due("the first by " + minutes[i], x.times(0), first[i]);
            due("the last by " + minutes[i], x.times(many[i] - 1), last[i]);
            due("one more", x.times(many[i]), NONE);
            due("-2", x.times(-2), NONE);
            due("most", x.times(MOST), NONE);
        }
        ShyBell y = town("pl0;bh60");
        y.note(0, true);
        due("MINUTE 0", y.times(0), 0);
        due("12, 1, 2 .. 7", y.times(NONE), 12 + 28);
        due("the last: 420 to 426", y.times(39), 426);
        y.note(0, false);
        due("never both", y.times(NONE), 0);
        due("never both", y.times(0), NONE);
        ShyBell z = town("pl0;bh60");
        due("nothing NOTED: the first", z.times(0), 0);
        due("nothing NOTED: the last", z.times(479), 479);
        due("nothing NOTED: one more", z.times(480), NONE);
        due("nothing NOTED: all", z.times(NONE), 480);
        z.note(60, true);
        due("MINUTE 539 is none, 480 to 487 are", z.times(z.times(NONE) - 1), 427);
    }

    private static void whose() {
        at("WHOSE: FROM (0 .. 59) by which all NOTED will be so (the first one is the next MINUTE)");
        for (int minute : new int[] {0, 1, 59, 60, 61}) {
            for (int noted : new int[] {0, 1, 59, 60}) {
                ShyBell x = gone("pf3l0q60;pl0;bh60k1", minute);
                x.set(0, 1, 1);
                x.note(noted, true);
                String what = "MINUTE " + minute + ", NOTED " + noted;
                due(what, x.whose(0, NONE), 1);
                due(what, x.whose(0, 0), (minute + noted) % 60);
                due(what, x.whose(0, 1), NONE);
                due(what, x.whose(0, -2), NONE);
                due("FROM stays", asked(x, 0, 0), 3);
                due("none for another one", x.whose(1, NONE), 0);
                due("none for another one", x.whose(1, 0), NONE);
            }
        }
        ShyBell y = town("pl1q60;b");
        due("nothing NOTED: all", y.whose(0, NONE), 60);
        due("nothing NOTED: the first", y.whose(0, 0), 0);
        due("nothing NOTED: the last", y.whose(0, 59), 59);
        due("nothing NOTED: one more", y.whose(0, 60), NONE);
        // Asked ahead for MINUTE 0, then for MINUTE 2: PERSON 1 LOOKS in MINUTE 3 alone.
        ShyBell z = town("pl1q60;pf3l1q60;bh60");
        z.note(1, false);
        z.note(0, true);
        due("MINUTES 0 rings, 1 not", z.whose(0, 0), 1);
        due("MINUTES 0 rings, 1 not", z.whose(0, NONE), 1);
        z.go(2);
        due("all but MINUTE 2", z.whose(0, NONE), 59);
        due("all but MINUTE 2", z.whose(0, 2), 3);
    }

    private static void odds() {
        at("ODDS for n (1 .. 10) MINUTES: of 10 to the 9 parts");
        ShyBell x = gone("pl0;bh60", 12);
        due("0", x.odds(0), NONE);
        due("-1", x.odds(-1), NONE);
        due("11", x.odds(11), NONE);
        due("240", x.odds(240), NONE);
        due("1: none is owed", x.odds(1), PARTS);
        due("10: none is owed", x.odds(10), PARTS);
        ShyBell y = gone("pl0;bh60", 2);
        due("10 owed, 9 MINUTES", y.odds(9), 0);
        due("10 owed, 10 MINUTES", y.odds(10), PARTS);
        y.risk(100);
        due("STRANGERS always", y.odds(10), 0);
        y.risk(1);
        // 0.99 ten times, each cut: what is left are the parts without a STRANGER.
        long left = PARTS;
        for (int k = 0; k < 10; k++) {
            left -= left / 100;
        }
        due("RISK 1", y.odds(10), left);
        y.risk(99);
        left = PARTS;
        for (int k = 0; k < 10; k++) {
            left -= left * 99 / 100;
        }
        due("RISK 99", y.odds(10), left);
        due("none was drawn", y.count(4), 2);
    }

    private static void oddsCut() {
        at("RISK by 100 of each part, cut, has a STRANGER, the rest not (parts alike are not put together)");
        for (int risk : new int[] {0, 1, 7, 33, 50, 67, 99, 100}) {
            for (int n : new int[] {1, 2, 9, 10}) {
                // A vain BELL that owes 12: it owes none behind n MINUTES, if enough went by with STRANGERS.
                for (int owed : new int[] {1, 2, 5}) {
                    ShyBell x = gone("pl" + (12 - owed) + "q60;bh60k1", 12);
                    x.risk(risk);
                    due("RISK " + risk + ", " + owed + " owed, " + n, x.odds(n), parts(n, owed, risk));
                }
            }
        }
    }

    /** Of all courses of n MINUTES the parts of those that have so many STRANGERS at least. */
    private static long parts(int n, int least, int risk) {
        long sum = 0;
        for (int bits = 0; bits < 1 << n; bits++) {
            long part = PARTS;
            for (int k = 0; k < n; k++) {
                long strange = part * risk / 100;
                part = (bits >> k & 1) != 0 ? strange : part - strange;
            }
            sum += Integer.bitCount(bits) >= least ? part : 0;
        }
        return sum;
    }

    private static void oddsOfWhatIsDue() {
        at("ODDS: behind which BELL 0 owes nothing");
        ShyBell x = gone("pl0;bh60", 55);
        x.risk(30);
        due("none is due yet", x.odds(5), PARTS);
        due("with MINUTE 60", x.odds(6), 700000000);
        due("one MINUTE more", x.odds(7), 910000000);
        ShyBell y = gone("pl1q60;bh60", 59);
        y.risk(30);
        due("MINUTE 59", y.odds(1), PARTS);
        due("PERSON 0 LOOKS in MINUTE 60", y.odds(2), 0);
        due("MINUTE 61", y.odds(3), 700000000);
        ShyBell late = gone("pf7l1q60;bh60", 66);
        due("PERSON 0 LOOKS in MINUTE 67", late.odds(2), PARTS);
        late.set(0, 2, 60);
        late.go(53);
        late.set(0, 0, 59);
        due("two are due in MINUTE 120, PERSON 0 LOOKS in 119", late.odds(2), 0);
        due("both ring, in MINUTES 120 and 121", late.odds(3), PARTS);
        late.set(0, 0, 1);
        due("PERSON 0 LOOKS in MINUTE 121", late.odds(3), 0);
        due("the last rings in MINUTE 122", late.odds(4), PARTS);
        ShyBell z = gone("pl0d3;gl60q60v2;bh60", 59);
        z.set(0, 1, 60);
        due("in FOG none SEES", z.odds(2), PARTS);
        // By o: in MINUTE 12 one is owed, and PERSON 0 LOOKS while none or one is.
        ShyBell o = gone("pl1q60;bh60", 11);
        take(o, 0, "y:2-o");
        due("two owed: one rings", o.ahead(0, 5, 0), 1);
        due("never the last", o.odds(5), 0);
        o.go(1);
        take(o, 0, "y:o-1");
        o.risk(30);
        due("one owed: it does not LOOK", o.odds(1), 700000000);
    }

    private static void image() {
        at("An IMAGE keeps the MINUTE, what BELLS owe, have rung, draws; BACK: they are so again");
        due("none yet", town("p;b").back(), NONE);
        for (int i = 0; i < 12; i++) {
            int draw = draw(seed(i), 3);
            for (int more = 0; more <= 1; more++) {
                ShyBell x = town("pl0;bh60k1;bh7");
                x.seed(seed(i));
                x.risk(1);
                x.go(3);
                int[] was = {x.bell(0, 3), x.bell(0, 4), x.bell(1, 3), x.bell(1, 4)};
                due("the next MINUTE", x.image(), 3);
                x.go(40);
                x.seed(5);
                due("back", x.back(), 3);
                int[] is = {x.bell(0, 3), x.bell(0, 4), x.bell(1, 3), x.bell(1, 4)};
                for (int k = 0; k < 4; k++) {
                    due("as it was: " + k, is[k], was[k]);
                }
                due("no MINUTE can be UNDONE", x.count(7), 0);
                due("no MINUTE can be UNDONE", x.undo(), NONE);
                x.risk(Math.max(1, draw + more));
                x.go(1);
                due("the fourth draw " + draw + " and " + more, x.bell(0, 4) - was[1], draw == 0 ? 1 : more);
                due("one can be", x.count(7), 1);
            }
        }
        ShyBell y = town("pl0;b");
        due("of MINUTE 0", y.image(), 0);
        y.go(9);
        due("instead of the one ahead", y.image(), 9);
        y.go(240);
        due("the later one", y.back(), 9);
        due("it is kept", y.back(), 9);
        y.go(5);
        for (int i = 0; i < 5; i++) {
            y.undo();
        }
        due("it is kept", y.back(), 9);
        tape(y, "p;b;q");
        due("no other TOWN", y.text(0), NONE);
        due("the IMAGE stays", y.back(), 9);
        y.end(3);
        due("another TOWN", y.text(0), 1);
        due("no IMAGE of this TOWN", y.back(), NONE);
        due("MINUTE 0", y.count(4), 0);
    }

    private static void peak() {
        at("PEAK: the most that it owes behind one of them; behind how many first (from 1)");
        ShyBell x = town("pl60q1;bh60;bh60k1");
        int[] n = {1, 2, 60, 61, 180, 181, 240};
        int[] most = {12, 12, 12, 13, 15, 18, 18};
        int[] first = {1, 1, 1, 61, 121, 181, 181};
        for (int i = 0; i < n.length; i++) {
            due("most in " + n[i], x.peak(0, n[i], 0), most[i]);
            due("first in " + n[i], x.peak(0, n[i], 1), first[i]);
            due("of the vain one, most in " + n[i], x.peak(1, n[i], 0), 11);
            due("of the vain one, first in " + n[i], x.peak(1, n[i], 1), 1);
        }
        due("0", x.peak(0, 0, 0), NONE);
        due("241", x.peak(0, 241, 0), NONE);
        ShyBell y = gone("pl0;bh60", 12);
        due("never owed", y.peak(0, 48, 0), 0);
        due("behind 1", y.peak(0, 48, 1), 1);
        due("due and rung at once", y.peak(0, 108, 0), 0);
        due("one of two due in MINUTE 120", y.peak(0, 109, 0), 1);
        due("behind 109", y.peak(0, 109, 1), 109);
    }

    private static void free() {
        at("FREE: the fewest MINUTES (1 .. 240) behind which it owes nothing");
        due("1", gone("pl0;bh60", 11).free(0), 1);
        due("2", gone("pl0;bh60", 10).free(0), 2);
        due("none is owed", gone("pl0;bh60", 12).free(0), 1);
        due("due and rung at once", gone("pl0;bh60", 60).free(0), 1);
        due("two due at once", gone("pl0;bh60", 120).free(0), 2);
        due("never", town("pl60q1;bh60").free(0), NONE);
        // 12, 1, 2 and 3 are owed, and rung but from MINUTE 222 (or 223) on.
        ShyBell x = town("p;bh60");
        take(x, 0, "y:222-t");
        due("240", x.free(0), 240);
        take(x, 0, "y:223-t");
        due("not within 240", x.free(0), NONE);
    }

    private static void alone() {
        at("ALONE: MINUTES of n in which a PERSON SEES the tower and nobody else does");
        ShyBell x = town("pl60q1;pf1l1q60;pf59l0;b");
        due("1", x.alone(0, 1), 1);
        due("2", x.alone(0, 2), 1);
        due("240: all but 1, 61, 121, 181", x.alone(0, 240), 236);
        due("never", x.alone(1, 240), 0);
        due("LOOKS never", x.alone(2, 240), 0);
        due("0", x.alone(0, 0), NONE);
        due("241", x.alone(0, 241), NONE);
        due("always", town("pl0;pl0;pl0;pl0;pl0;pl60q1;b").alone(5, 240), 240);
        ShyBell y = town("pl60q1d3;pl60q1d4;gl1q60v3;b");
        due("in FOG: MINUTES 0, 60, 120, 180", y.alone(0, 240), 4);
        due("PERSON 1 never", y.alone(1, 240), 0);
    }

    private static void hours() {
        at("HOURS: the k-th full HOUR from now (0 the next one, also if it is the next MINUTE)");
        ShyBell x = town("pl0;bh60;bh60k1");
        int[] from = {0, 1, 59, 60, 61, 119, 120, 121};
        int[] first = {11, 59, 1, 0, 60, 2, 1, 61};
        int[] second = {60, 120, 62, 61, 121, 63, 62, 122};
        for (int i = 0; i < from.length; i++) {
            ShyBell y = gone("pl0;bh60;bh60k1", from[i]);
            due("from " + from[i] + ", 0", y.hour(0, 0), first[i]);
            due("from " + from[i] + ", 1", y.hour(0, 1), second[i]);
            due("never rung", y.hour(1, 0), NONE);
            due("-1", y.hour(0, -1), NONE);
        }
        due("180 to 182", x.hour(0, 3), 182);
        due("MINUTE 240", x.hour(0, 4), NONE);
        due("most", x.hour(0, MOST), NONE);
        due("least", x.hour(0, LEAST), NONE);
        // Four due in MINUTE 240: rung in 240 to 243, that is 239 from MINUTE 4.
        due("239", gone("pl0;bh60", 4).hour(0, 3), 239);
        due("240", gone("pl0;bh60", 3).hour(0, 3), NONE);
        // What is owed of full HOURS past is rung ahead of it, what is due later is not waited for.
        ShyBell z = gone("pl60q1;bh10", 15);
        z.set(0, 1, 0);
        due("13 owed, 2 due in MINUTE 20: the 15th", z.hour(0, 0), 14);
        due("3 more due in MINUTE 30", z.hour(0, 1), 17);
        due("4 more due in MINUTE 40", z.hour(0, 2), 28);
    }

    private static void veil() {
        at("VEIL: the VIEW (0 .. 9) with which LATE of BELL 0 in n MINUTES is least (of several the least)");
        for (int distance = 0; distance <= 9; distance++) {
            ShyBell vain = town("pl60q1d" + distance + ";gl60q60v5;bh60k1;bh60");
            due("a vain one, d" + distance, vain.veil(12, 0), distance);
            due("LATE then", vain.veil(12, 1), 66);
            due("VIEW stays", vain.count(5), 5);
            ShyBell shy = town("pl60q1d" + distance + ";gl60q60v9;bh60;bh60k1");
            due("a shy one, d" + distance, shy.veil(240, 0), 0);
            due("LATE then", shy.veil(12, 1), distance == 0 ? 144 : 66);
        }
        ShyBell x = town("pl60q1d5;gl1q60v9;bh60");
        due("in FOG but in MINUTE 0", x.veil(1, 1), 11);
        due("seen in MINUTE 1", x.veil(2, 1), 22);
        due("240", x.veil(240, 0), 0);
        due("0", x.veil(0, 0), NONE);
        due("241", x.veil(241, 0), NONE);
        due("no FOG is told", town("p;b").veil(1, 0), NONE);
        due("no TOWN", new ShyBell().veil(1, 0), NONE);
    }

    private static void newTown() {
        at("what was owed, rung, NOTED, HABITS of PERSONS, the IMAGE of another one are gone");
        ShyBell x = gone("pl60q1;gv3;bh10;bh7k1", 61);
        take(x, 0, "y:1");
        x.note(0, false);
        x.image();
        x.seed(seed(12));
        tape(x, "pl0;bh10k1;bh7k1");
        due("PERSONS", x.text(0), 1);
        due("MINUTE 0", x.count(4), 0);
        due("FOG is gone", x.count(5), NONE);
        for (int bell = 0; bell < 2; bell++) {
            due("owed by " + bell, x.bell(bell, 3), 0);
            due("rung by " + bell, x.bell(bell, 4), 0);
        }
        due("NOTED", x.count(6), 0);
        due("HABIT", asked(x, 0, 4), NONE);
        due("LOOKS by its span", asked(x, 0, 5), 0);
        due("UNDONE", x.undo(), NONE);
        due("IMAGE", x.back(), NONE);
        due("nothing NOTED", x.times(NONE), 480);
        at("HABITS, RISK, draws stay");
        due("HABITS", x.count(2), 1);
        due("HABIT 0", x.set(0, 3, 0), true);
        due("LOOKS by it", asked(x, 0, 5), 1);
        x.set(0, 3, NONE);
        for (int i = 0; i < 12; i++) {
            int draw = draw(seed(i), 1);
            for (int more = 0; more <= 1; more++) {
                ShyBell y = town("p;b");
                y.seed(seed(i));
                y.risk(Math.max(1, draw + more));
                y.go(1);
                tape(y, "pl0;bh60k1");
                y.text(0);
                y.go(1);
                due("the second draw " + draw + " and " + more, y.bell(0, 4), draw == 0 ? 1 : more);
            }
        }
        ShyBell z = new ShyBell();
        due("RISK without a TOWN", z.risk(100), true);
        due("a HABIT without a TOWN", habit(z, "y:1"), 0);
        tape(z, "pl0;bh60k1");
        z.text(0);
        z.go(2);
        due("RISK stays", z.bell(0, 4), 2);
        due("the HABIT stays", z.set(0, 3, 0), true);
    }

    private static void apartFromEachOther() {
        at("All of these apart, from as it is");
        ShyBell x = gone("pf2l1q30;pf7l2q60;gf20v0;bh60;bh60k1", 12);
        due("three are owed", x.bell(0, 3), 3);
        int[] first = answers(x);
        // Each is asked again behind all others, and from a MINUTE that none of them was asked from.
        int[] second = answers(x);
        x.go(3);
        int[] later = answers(x);
        int[] fresh = answers(gone("pf2l1q30;pf7l2q60;gf20v0;bh60;bh60k1", 15));
        for (int i = 0; i < first.length; i++) {
            due("answer " + i + " again", second[i], first[i]);
            due("answer " + i + " later", later[i], fresh[i]);
        }
    }

    private static int[] answers(ShyBell x) {
        return new int[] {x.turn(9), x.ahead(0, 30, 0), x.stare(9), x.ahead(1, 30, 1), x.errand(0, 30, 1), x.late(0, 30),
            x.spoil(30, 1), x.bunch(0, 30), x.veil(30, 1), x.ears(0, 30), x.whose(1, 59), x.seen(30, 0), x.stare(30),
            x.seen(30, 1), x.errand(1, 30, 0), x.lovers(0, 1, 30, 1), x.turn(30), x.times(NONE), x.odds(3),
            x.peak(0, 30, 1), x.spoil(9, 0), x.free(0), x.veil(9, 0), x.alone(0, 30), x.stare(9), x.hour(0, 0),
            x.turn(9), x.odds(9), x.errand(0, 9, 0), asked(x, 0, 5), asked(x, 1, 6), x.strike(1, 0)};
    }

    private static void count() {
        at("count: 5 VIEW (NONE: no FOG is told; 0 without a TOWN)");
        due("without a TOWN", new ShyBell().count(5), 0);
        due("no FOG", town("p;b").count(5), NONE);
        for (int v = 0; v <= 9; v++) {
            due("VIEW", town("p;b;gv" + v).count(5), v);
        }
        at("count: HIDDEN for others");
        ShyBell x = town("p;b");
        due("7", x.count(7), 0);
        due("8", x.count(8), HIDDEN);
        due("-1", x.count(-1), HIDDEN);
        due("least", x.count(LEAST), HIDDEN);
        due("most", x.count(MOST), HIDDEN);
        due("8 without a TOWN", new ShyBell().count(8), HIDDEN);
    }
}
