/** Section 1 of the document, sentence by sentence: each bound of a TOWN and of a HABIT, and what is past it. */
public final class TextBoundsTest extends Check {
    private static final String[] PERSON_ITEMS = {"f 0 59 0", "l 0 60 5", "q 1 60 20", "d 0 9 1"};
    private static final String[] FOG_ITEMS = {"f 0 59 0", "l 0 60 10", "q 1 60 60", "v 0 9 0"};
    private static final String[] BELL_ITEMS = {"h 5 60 20", "k 0 1 0", "r 0 9 9"};

    public static void main(String[] args) {
        persons();
        fogs();
        bells();
        anyOrder();
        itemsNoneOrMore();
        itemsOnce();
        itemsOfOthers();
        digitsOfItems();
        boundsOfItems();
        fogsOwnBounds();
        clausesOfTowns();
        blanks();
        noOtherBlanks();
        endsTooEarly();
        firstFaultAlone();
        bytesOfTheTape();
        habitsFourAtMost();
        clausesOfHabits();
        conditionsOfHabits();
        digitsOfHabits();
        lettersOfHabits();
        sixWithinOneAnother();
        sevenWithinOneAnother();
        besideOneAnother();
        cutAbove();
        cutBelow();
        cutBehindEachSign();
        dividing();
        worthIsOfTheFirst();
        worthAboveZero();
        fullTape();
        finish("bounds of texts");
    }

    /** The TOWN is refused at that byte, as a TEXT too, and stays on the TAPE. */
    private static void refusedTown(String text, int want) {
        fault(0, text, want);
        ShyBell x = town("pf7;b");
        tape(x, text);
        due("text(0) of \"" + text + "\"", x.text(0), NONE);
        due("TAPE behind it", x.count(3), text.length());
        due("the TOWN ahead of it", asked(x, 0, 0), 7);
    }

    private static void persons() {
        at("p (a PERSON; 1 .. 6)");
        refusedTown("b", 1);
        refusedTown("b;g", 3);
        for (int n = 1; n <= 6; n++) {
            ShyBell x = new ShyBell();
            tape(x, "b" + many(";pf9", n));
            due(n + " PERSONS", x.text(0), n);
            due(n + " PERSONS counted", x.count(0), n);
            due("the last one", asked(x, n - 1, 0), 9);
            personThrows(x, n, 0);
        }
        refusedTown("b" + many(";p", 7), 14);
        refusedTown("b" + many(";pf1", 7), 26);
        refusedTown(many("p;", 6) + "b;p", 14);
    }

    private static void fogs() {
        at("g (the FOG; one at most)");
        due("none", town("p;b").count(5), NONE);
        due("one", town("p;gv3;b").count(5), 3);
        refusedTown("gv3;p;gv4;b", 6);
        refusedTown("g;g", 2);
    }

    private static void bells() {
        at("b (a BELL; 1 .. 2)");
        refusedTown("p", 1);
        refusedTown("p;g", 3);
        ShyBell x = town("p;bh7");
        due("one", x.count(1), 1);
        due("BELL 0", x.bell(0, 0), 7);
        due("no BELL 1", x.bell(1, 0), NONE);
        ShyBell y = town("p;bh7;bh8");
        due("two", y.count(1), 2);
        due("BELL 1", y.bell(1, 0), 8);
        due("no BELL 2", y.bell(2, 0), NONE);
        refusedTown("p;b;b;b", 6);
        refusedTown("b;b;b", 4);
    }

    private static void anyOrder() {
        at("p, g, b in any order");
        String[] clauses = {"pf1", "pf2", "gv7", "bh11", "bh12"};
        for (int first = 0; first < 5; first++) {
            for (int step = 1; step < 5; step++) {
                StringBuilder text = new StringBuilder();
                for (int i = 0; i < 5; i++) {
                    text.append(i > 0 ? ";" : "").append(clauses[(first + i * step) % 5]);
                }
                String told = text.toString();
                int before = told.indexOf("pf1") < told.indexOf("pf2") ? 0 : 1;
                int ahead = told.indexOf("bh11") < told.indexOf("bh12") ? 0 : 1;
                ShyBell x = town(told);
                due("PERSONS of " + told, x.count(0), 2);
                due("f1 of " + told, asked(x, before, 0), 1);
                due("f2 of " + told, asked(x, 1 - before, 0), 2);
                due("v7 of " + told, x.count(5), 7);
                due("h11 of " + told, x.bell(ahead, 0), 11);
                due("h12 of " + told, x.bell(1 - ahead, 0), 12);
            }
        }
    }

    private static void itemsNoneOrMore() {
        at("ITEMS, none or more");
        ShyBell none = town("p;g;b");
        ShyBell all = town("pf59l60q1d9;gf59l60q1v9;bh5k1r0");
        ShyBell turned = town("pd9q1l60f59;gv9q1l60f59;br0k1h5");
        int[] most = {59, 60, 1, 9};
        int[] bell = {5, 1, 0};
        for (int i = 0; i < 4; i++) {
            due("without, PERSON " + i, asked(none, 0, i), untold(PERSON_ITEMS[i]));
            due("all, PERSON " + i, asked(all, 0, i), most[i]);
            due("turned round, PERSON " + i, asked(turned, 0, i), most[i]);
        }
        for (int i = 0; i < 3; i++) {
            due("without, BELL " + i, none.bell(0, i), untold(BELL_ITEMS[i]));
            due("all, BELL " + i, all.bell(0, i), bell[i]);
            due("turned round, BELL " + i, turned.bell(0, i), bell[i]);
        }
        due("without, VIEW", none.count(5), 0);
        due("all, VIEW", all.count(5), 9);
        due("turned round, VIEW", turned.count(5), 9);
        int[] minutes = {0, 9, 10, 59, 60, 69, 70, 119, 120, 3609, 3610};
        int[] on = {1, 1, 0, 0, 1, 1, 0, 0, 1, 1, 0};
        for (int i = 0; i < minutes.length; i++) {
            due("without, FOG in MINUTE " + minutes[i], none.fog(minutes[i]), on[i]);
            due("all, FOG in MINUTE " + minutes[i], all.fog(minutes[i]), 1);
        }
    }

    private static int untold(String item) {
        return Integer.parseInt(item.split(" ")[3]);
    }

    private static void itemsOnce() {
        at("a letter, each once at most in a CLAUSE");
        once("p;b;p", PERSON_ITEMS);
        once("p;b;g", FOG_ITEMS);
        once("p;b", BELL_ITEMS);
        due("in another CLAUSE again", town("pf1l2q3d4;pf1l2q3d4;bh5k1r2;bh5k1r2").count(0), 2);
        refusedTown("pf1l2f3;b", 5);
        refusedTown("pf1 f1;b", 4);
    }

    private static void once(String ahead, String[] items) {
        for (String item : items) {
            String letter = item.substring(0, 1);
            String value = item.split(" ")[2];
            refusedTown(ahead + letter + value + letter + value, ahead.length() + 1 + value.length());
        }
    }

    private static void itemsOfOthers() {
        at("of p, of g, of b: the letters");
        for (char letter = ' ' + 1; letter < 256; letter++) {
            if (letter != ';') {
                fault(0, "b;p" + letter + "1", "flqd".indexOf(letter) >= 0 ? NONE : 3);
                fault(0, "b;p;g" + letter + "1", "flqv".indexOf(letter) >= 0 ? NONE : 5);
                fault(0, "p;b" + letter + "09", letter == 'h' || letter == 'r' ? NONE : letter == 'k' ? 5 : 3);
                fault(0, "" + letter, "pgb".indexOf(letter) >= 0 ? 1 : 0);
            }
        }
    }

    private static void digitsOfItems() {
        at("a number (one or two digits)");
        refusedTown("pf;b", 2);
        refusedTown("pf", 2);
        refusedTown("pf ;b", 3);
        refusedTown("pfl1;b", 2);
        refusedTown("pf-1;b", 2);
        refusedTown("pf+1;b", 2);
        due("one", asked(town("pf7;b"), 0, 0), 7);
        due("two", asked(town("pf07;b"), 0, 0), 7);
        due("two", asked(town("pf17;b"), 0, 0), 17);
        due("00", asked(town("pf00;b"), 0, 0), 0);
        at("a third digit itself, whatever stands ahead of it");
        refusedTown("pf007;b", 4);
        refusedTown("pf100;b", 4);
        refusedTown("pf590;b", 4);
        refusedTown("pf600;b", 4);
        refusedTown("pf999;b", 4);
        refusedTown("pf0000;b", 4);
        refusedTown("pd000;b", 4);
        refusedTown("pd100;b", 4);
        refusedTown("pq000;b", 4);
        refusedTown("p;bh0055", 6);
        refusedTown("p;bh049", 6);
        refusedTown("p;bk000", 6);
        refusedTown("p;gv010;b", 6);
        at("not within numbers");
        refusedTown("pf1 2;b", 4);
        refusedTown("pf 1 2;b", 5);
        refusedTown("pf 12 3;b", 6);
        refusedTown("pf99 9;b", 3);
    }

    private static void boundsOfItems() {
        at("the bounds of each ITEM");
        for (int i = 0; i < 4; i++) {
            bounds("b;p", PERSON_ITEMS[i], 0, i);
            bounds("b;p;g", FOG_ITEMS[i], 1, i);
            if (i < 3) {
                bounds("p;b", BELL_ITEMS[i], 2, i);
            }
        }
    }

    private static void bounds(String ahead, String item, int sort, int i) {
        String[] parts = item.split(" ");
        int least = Integer.parseInt(parts[1]);
        int most = Integer.parseInt(parts[2]);
        for (int v = 0; v <= 99; v++) {
            String text = ahead + parts[0] + v;
            String two = ahead + parts[0] + (v < 10 ? "0" : "") + v;
            if (v >= least && v <= most) {
                due(text, told(town(text), sort, i), sort == 1 && i < 3 ? 0 : v);
                due(two, told(town(two), sort, i), sort == 1 && i < 3 ? 0 : v);
            } else if (v == least - 1 || v == most + 1 || v == 0 || v == 99) {
                // Wrong at its last digit, whatever follows.
                refusedTown(text, text.length() - 1);
                refusedTown(two, two.length() - 1);
                refusedTown(text + " ;p", text.length() - 1);
                refusedTown(two + "x", two.length() - 1);
            } else {
                fault(0, text, text.length() - 1);
                fault(0, two, two.length() - 1);
            }
        }
    }

    private static int told(ShyBell x, int sort, int i) {
        if (sort == 1) {
            return i < 3 ? 0 : x.count(5);
        }
        return sort == 0 ? asked(x, 0, i) : x.bell(0, i);
    }

    private static void fogsOwnBounds() {
        at("of g: f FROM (0 .. 59), l LONG (0 .. 60), q PERIOD (1 .. 60)");
        foggy("gf0l1", 0, 60, 1);
        foggy("gf59l1", 59, 119, 1);
        foggy("gf59l1", 0, 58, 0);
        foggy("gf58l1", 58, 118, 1);
        foggy("gl0", 0, 60, 0);
        foggy("gl0q1", 0, 1, 0);
        foggy("gl1", 1, 59, 0);
        foggy("gl59", 59, 119, 0);
        foggy("gl59", 58, 118, 1);
        foggy("gl60", 59, 119, 1);
        foggy("gl1q1", 1, 59, 1);
        foggy("gl1q2", 1, 59, 0);
        foggy("gl1q2", 2, 58, 1);
        foggy("gl1q59", 59, 118, 1);
        foggy("gl1q59", 60, 58, 0);
        foggy("gl1q60", 60, 120, 1);
        foggy("gl1q60", 59, 118, 0);
        foggy("gf5l60q1", 0, MOST, 1);
    }

    private static void foggy(String fog, int one, int other, int want) {
        ShyBell x = town("p;b;" + fog);
        due(fog + " in MINUTE " + one, x.fog(one), want);
        due(fog + " in MINUTE " + other, x.fog(other), want);
    }

    private static void clausesOfTowns() {
        at("CLAUSES with ; between");
        refusedTown("", 0);
        refusedTown(";p;b", 0);
        refusedTown("p;;b", 2);
        refusedTown("p;b;", 4);
        refusedTown("p;b;;", 4);
        refusedTown("pb", 1);
        refusedTown("p b", 2);
        refusedTown("p,b", 1);
        refusedTown("p:b", 1);
        refusedTown("p;b.", 3);
        refusedTown("P;b", 0);
        refusedTown("p;B", 2);
        refusedTown("pF1;b", 1);
        refusedTown("y:1", 0);
        refusedTown("p;y:1;b", 2);
    }

    private static void blanks() {
        at("Blanks (32) may stand between all signs of both");
        String text = "p f 1 l 2 q 3 d 4 ; g f 5 l 6 q 7 v 8 ; b h 9 k 1 r 2";
        for (String each : new String[] {text, "  " + text, text + "  ", text.replace(" ", "   ")}) {
            ShyBell x = new ShyBell();
            tape(x, each);
            due("text(0) of " + each, x.text(0), 1);
            due("FROM", asked(x, 0, 0), 1);
            due("DISTANCE", asked(x, 0, 3), 4);
            due("VIEW", x.count(5), 8);
            due("REACH", x.bell(0, 2), 2);
        }
        String sums = " y : ! ( 1 = 2 | t < 0 ) & [ t ] > 2 ? 12 + 3 * m / 4 - h ; y : o + d + p ";
        fault(1, sums, NONE);
        fault(1, sums.replace(" ", ""), NONE);
        fault(1, sums.replace(" ", "  "), NONE);
        refusedTown(" ", 1);
        refusedTown("   ", 3);
        refusedTown("p;b;   ", 7);
        refusedTown("  x", 2);
        fault(1, "  ", 2);
        fault(1, " y : 1 2", 7);
        fault(1, "y:12 34", 5);
    }

    private static void noOtherBlanks() {
        at("Blanks (32) alone");
        for (int sign : new int[] {1, 9, 10, 13, 31, 127, 160, 255}) {
            fault(0, "p;" + (char) sign + "b", 2);
            fault(0, (char) sign + "p;b", 0);
            fault(0, "p;b" + (char) sign, 3);
            fault(1, "y:" + (char) sign + "1", 2);
            fault(1, "y:1" + (char) sign, 3);
        }
    }

    private static void endsTooEarly() {
        at("the length, if it ends too early");
        String whole = "pf1l2q3d4;gf1l2q3v4;bh10k1r2;b;p";
        for (int n = 0; n < whole.length(); n++) {
            String part = whole.substring(0, n);
            boolean hasBell = n >= 21;
            char last = n == 0 ? ';' : part.charAt(n - 1);
            boolean stands = hasBell && (last == 'b' || last == 'p' || last >= '0' && last <= '9');
            // h1 is out of bounds as it stands.
            fault(0, part, part.endsWith("h1") ? n - 1 : stands ? NONE : n);
        }
        String sums = "y:!([12]=t)&1<m|h>0?o*3/d-[p+1];y:9";
        for (int n = 0; n < sums.length(); n++) {
            String part = sums.substring(0, n);
            boolean stands = part.indexOf('?') >= 0 && part.lastIndexOf('[') <= Math.max(part.lastIndexOf(']'), 9)
                && Character.isLetterOrDigit(part.charAt(n - 1)) && !part.endsWith("y") || part.endsWith("]") && n > 20;
            fault(1, part, stands ? NONE : n);
        }
        String first = "y:1<m&t=2|h>0?9;y:5/2";
        for (int n = 0; n <= first.length(); n++) {
            boolean stands = n == 3 || n == 15 || n == 19 || n == 21;
            fault(1, first.substring(0, n), stands ? NONE : n);
            fault(1, first.substring(0, n) + "#", n);
            fault(1, first.substring(0, n) + ";y:1", n == 0 || !stands ? n : NONE);
        }
    }

    private static void firstFaultAlone() {
        at("the first byte at which no such TEXT can go on");
        fault(0, "pf60;x", 3);
        fault(0, "x;pf60", 0);
        fault(0, "p;b;b;b;g;g", 6);
        fault(0, "pf1f;bh4", 3);
        fault(0, "g;g;pf99", 2);
        fault(1, "y:1+;y:", 4);
        fault(1, "y:1?x", 3);
        fault(1, "y:12345;z", 6);
        fault(1, "y:1=1?[[[[[[[1", 12);
        fault(1, "y:1;x:2;y", 4);
    }

    private static void bytesOfTheTape() {
        at("Twenty bytes more come to the TAPE: more than 160");
        ShyBell x = new ShyBell();
        String text = "p;b" + many(" ", 157);
        tape(x, text);
        due("160", x.count(3), 160);
        due("one more", x.feed(32, 0, 0, 0, 0), NONE);
        due("twenty more", x.feed(-1, -1, -1, -1, -1), NONE);
        due("none more", x.feed(0, 0, 0, 0, 0), 160);
        due("still well told", x.fault(0), NONE);
        due("159", x.end(159), true);
        due("two more", x.feed(0x2020, 0, 0, 0, 0), NONE);
        due("still 159", x.count(3), 159);
        due("one more, the last of all twenty", x.feed(0, 0, 0, 0, 32), 160);
        due("140", x.end(140), true);
        due("twenty-one are too many", x.feed(0x20202020, 0x20202020, 0x20202020, 0x20202020, 0x20202020), 160);
        due("141", x.end(141), true);
        due("twenty are too many", x.feed(0x20202020, 0x20202020, 0x20202020, 0x20202020, 0x20202020), NONE);
        due("nineteen", x.feed(0x20202020, 0x20202020, 0x00202020, 0x20202020, 0x20202020), 160);
        due("a TOWN of 160 bytes", x.text(0), 1);
        due("the TAPE is empty", x.count(3), 0);
        at("of each number the highest first; bytes of 0 are left out");
        due("y : 1", x.feed('y' << 24, ':' << 16, '1' << 8, 0, 0), 3);
        due("in their order", x.fault(1), NONE);
        due("and 2", x.feed(0, 0, 0, '+', '2' << 24 | ';'), 6);
        due("ends too early", x.fault(1), 6);
        due("without ;", x.end(5), true);
        due("y:1+2", x.fault(1), NONE);
        at("The TAPE has its first n bytes alone");
        due("as many as it has", x.end(5), true);
        due("one more than it has", x.end(6), false);
        due("-1", x.end(-1), false);
        due("161", x.end(161), false);
        due("least", x.end(LEAST), false);
        due("most", x.end(MOST), false);
        due("none changed it", x.count(3), 5);
        due("0", x.end(0), true);
        due("empty", x.count(3), 0);
        due("0 of none", x.end(0), true);
        due("1 of none", x.end(1), false);
    }

    private static void habitsFourAtMost() {
        at("HABITS (4 at most)");
        ShyBell x = town("p;b");
        for (int i = 0; i < 4; i++) {
            due("not told yet", x.set(0, 3, i), false);
            due("its number", habit(x, "y:" + (i - 1 < 0 ? "0" : "" + (i - 1))), i);
            due("HABITS", x.count(2), i + 1);
            due("the TAPE is empty", x.count(3), 0);
        }
        due("a fifth", habit(x, "y:5"), NONE);
        due("HABITS", x.count(2), 4);
        due("the TAPE stays", x.count(3), 3);
        due("it is no HABIT", x.set(0, 3, 4), false);
        for (int i = 0; i < 4; i++) {
            x.set(0, 3, i);
            due("HABIT " + i + " is as it was told", asked(x, 0, 5), i > 1 ? 1 : 0);
        }
        due("no FAULT by that", x.fault(1), NONE);
        x.end(0);
        tape(x, "p;p;b");
        due("another TOWN", x.text(0), 2);
        due("HABITS stay", x.count(2), 4);
        due("a fifth yet", habit(x, "y:5"), NONE);
        due("HABIT 3 stays", x.set(1, 3, 3), true);
        due("it LOOKS by it", asked(x, 1, 5), 1);
    }

    private static void clausesOfHabits() {
        at("CLAUSES with ; between, one at least: y, : , perhaps CONDITION ?, then SUM");
        fault(1, "", 0);
        fault(1, ";", 0);
        fault(1, "y", 1);
        fault(1, "y:", 2);
        fault(1, "y;", 1);
        fault(1, "y:;", 2);
        fault(1, "y:1", NONE);
        fault(1, "y:1;", 4);
        fault(1, "y:1;;", 4);
        fault(1, "y:1;y", 5);
        fault(1, "y:1;1", 4);
        fault(1, "y:1y:1", 3);
        fault(1, many("y:1;", 39) + "y:1", NONE);
        fault(1, many("y:1;", 40), 160);
        fault(1, "x:1", 0);
        fault(1, "Y:1", 0);
        fault(1, "y?1", 1);
        fault(1, "y:?1", 2);
        fault(1, "y:1=1?", 6);
        fault(1, "y:1=1?1?1", 7);
        fault(1, "y:1=1?1=1", 7);
        fault(1, "y:1=1?1;y:2", NONE);
    }

    private static void conditionsOfHabits() {
        at("a CLAUSE that goes on with ! or ( behind its : has a CONDITION");
        fault(1, "y:(1)", 4);
        fault(1, "y:(1)+2", 4);
        fault(1, "y:(1+2)*3", 6);
        fault(1, "y:((1))", 5);
        fault(1, "y:!1", 4);
        fault(1, "y:!1+2", 6);
        fault(1, "y:!1?2", 4);
        fault(1, "y:!(1=1)", 8);
        fault(1, "y:(1=1)", 7);
        fault(1, "y:(1=1);", 7);
        fault(1, "y:(1=1)?1", NONE);
        fault(1, "y:!1=1?1", NONE);
        at("UNIT: ! UNIT, ( CONDITION ), or SUM, one of = < >, SUM");
        fault(1, "y:1?1", 3);
        fault(1, "y:1&1=1?1", 3);
        fault(1, "y:1|1=1?1", 3);
        fault(1, "y:1=?1", 4);
        fault(1, "y:1==1?1", 4);
        fault(1, "y:1<=1?1", 4);
        fault(1, "y:1<1>1?1", 5);
        fault(1, "y:1=1&?1", 6);
        fault(1, "y:1=1|?1", 6);
        fault(1, "y:1=1&&1=1?1", 6);
        fault(1, "y:1=1!1=1?1", 5);
        fault(1, "y:1=1&1?1", 7);
        fault(1, "y:(1=1?1)", 6);
        fault(1, "y:()?1", 3);
        fault(1, "y:(1=1))?1", 7);
        fault(1, "y:[(1=1)]?1", 3);
        fault(1, "y:[!1]=1?1", 3);
        fault(1, "y:1=1?(1)", 6);
        fault(1, "y:1=1?!1", 6);
        fault(1, "y:1=[1?1", 6);
        fault(1, "y:[1=1]?1", 4);
        fault(1, "y:[]=1?1", 3);
        fault(1, "y:-1", 2);
        fault(1, "y:+1", 2);
        fault(1, "y:1++1", 4);
        fault(1, "y:1*-1", 4);
        fault(1, "y:1[1]", 3);
        fault(1, "y:[1]1", 5);
        fault(1, "y:[1]t", 5);
        fault(1, "y:1t", 3);
        fault(1, "y:t1", 3);
    }

    private static void digitsOfHabits() {
        at("a number (1 to 4 digits); a fifth one itself");
        fault(1, "y:0", NONE);
        fault(1, "y:9", NONE);
        fault(1, "y:9999", NONE);
        fault(1, "y:0000", NONE);
        fault(1, "y:10000", 6);
        fault(1, "y:99999", 6);
        fault(1, "y:00000", 6);
        fault(1, "y:000001", 6);
        fault(1, "y:1+[12345]", 9);
        fault(1, "y:1=12345?1", 8);
        fault(1, "y:1234 5", 7);
        is("9999", "[100*100-1]", true);
        is("0099", "99", true);
        is("0010", "10", true);
        is("9999", "9998", false);
    }

    private static void lettersOfHabits() {
        at("a letter (t h m o d p)");
        for (char letter = 1; letter < 256; letter++) {
            boolean stands = "thmodp".indexOf(letter) >= 0 || letter >= '0' && letter <= '9';
            boolean goesOn = letter == '[' || letter == '(' || letter == '!' || letter == ' ';
            fault(1, "y:" + letter, stands ? NONE : goesOn ? 3 : 2);
            fault(1, "y:1+" + letter, stands ? NONE : letter == '[' || letter == ' ' ? 5 : 4);
        }
    }

    /** Whether PERSON 0 (DISTANCE 4) LOOKS in MINUTE 0 by a HABIT. */
    private static boolean looks(String text) {
        ShyBell x = town("pd4l0;b");
        due("number of " + text, habit(x, text), 0);
        x.set(0, 3, 0);
        return asked(x, 0, 5) == 1;
    }

    private static void is(String sum, String other, boolean want) {
        due(sum + " = " + other, looks("y:" + sum + "=" + other + "?1"), want);
    }

    private static void sixWithinOneAnother() {
        at("At most six of ( [ ! within one another: six");
        is(many("[", 6) + "7" + many("]", 6), "7", true);
        is(many("[1+", 6) + "7" + many("]", 6), "13", true);
        due("six (", looks("y:" + many("(", 6) + "1=1" + many(")", 6) + "?1"), true);
        due("six !", looks("y:" + many("!", 6) + "1=1?1"), true);
        due("five !", looks("y:" + many("!", 5) + "1=1?1"), false);
        due("( and !", looks("y:(!(!(!1=2)))?1"), true);
        due("all three sorts", looks("y:!(!([[1]]=2))?1"), false);
        due("all three sorts", looks("y:!(!(2=[[1]])&1=1)?1"), false);
        due("much that waits", looks("y:" + many("1=2|1=1&(", 6) + "1=1+0*1" + many(")", 6) + "?1"), true);
        due("the SUM behind ?", looks("y:1=1?" + many("[", 6) + "1" + many("]", 6)), true);
        fault(1, "y:1=" + many("[", 6) + "1" + many("]", 6) + "?1", NONE);
        fault(1, "y:1=1&" + many("(", 6) + "1=1" + many(")", 6) + "?1", NONE);
        fault(1, "y:1=1|" + many("!", 6) + "1=1?1", NONE);
    }

    private static void sevenWithinOneAnother() {
        at("a seventh of ( [ ! at it");
        fault(1, "y:" + many("[", 7) + "1" + many("]", 7), 8);
        fault(1, "y:" + many("(", 7) + "1=1" + many(")", 7) + "?1", 8);
        fault(1, "y:" + many("!", 7) + "1=1?1", 8);
        fault(1, "y:((((((!1=1))))))?1", 8);
        fault(1, "y:(((((([1]=1))))))?1", 8);
        fault(1, "y:((((((1=[1]))))))?1", 10);
        fault(1, "y:!!!!!!(1=1)?1", 8);
        fault(1, "y:!!!!!![1]=1?1", 8);
        fault(1, "y:!!!!!!1=[1]?1", 10);
        fault(1, "y:!(!(!([1]=1)))?1", 8);
        fault(1, "y:!(!([[[1]]]=2))?1", 8);
        fault(1, "y:1=" + many("[", 7) + "1", 10);
        fault(1, "y:1=1&" + many("(", 7) + "1", 12);
        fault(1, "y:1=1|" + many("!", 7) + "1", 12);
        fault(1, "y:1=1?" + many("[", 7) + "1", 12);
        fault(1, "y:1+" + many("[", 7) + "1", 10);
        fault(1, "y:1;y:" + many("[", 7) + "1", 12);
        fault(1, "y:[[[[[[1]]]]]]+[[[[[[[1", 22);
    }

    private static void besideOneAnother() {
        at("within one another, not beside");
        fault(1, "y:[[[[[[1]]]]]]+[[[[[[1]]]]]]*[[[[[[1]]]]]]", NONE);
        fault(1, "y:!!!!!!1=1&!!!!!!1=1|!!!!!!1=1?[[[[[[1]]]]]]", NONE);
        fault(1, "y:((((((1=1))))))&((((((1=1))))))?1;y:((((((1=1))))))?1", NONE);
        fault(1, "y:(!1=1&!1=1&!1=1&!1=1&!1=1&!1=1&!1=1)?1", NONE);
        fault(1, "y:!1=[[[[[1]]]]]&[[[[[[1]]]]]]=1?1", NONE);
        fault(1, "y:1=1&!(1=[[[[1]]]])&[[[[[[1]]]]]]=1?1", NONE);
        fault(1, "y:1=1&!(1=[[[[1]]]])|[[[[[[1]]]]]]=1?1", NONE);
    }

    private static void cutAbove() {
        at("Behind each sign numbers are within -1,000,000 .. 1,000,000: above");
        is("999*1001", "1000*1000-1", true);
        is("999*1001", "1000*1000", false);
        is("999*1001+1", "1000*1000", true);
        is("1000*1000-1", "1000*1000", false);
        is("1000*1000+1", "1000*1000", true);
        is("1000*1001", "1000*1000", true);
        is("9999*9999", "1000*1000", true);
        is("1000*1000-[0-1]", "1000*1000", true);
        is("9999*9999*9999*9999*9999*9999", "1000*1000", true);
        is("[0-1000]*[0-1000]", "1000*1000", true);
        is("[0-1001]*[0-1000]", "1000*1000", true);
    }

    private static void cutBelow() {
        at("Behind each sign numbers are within -1,000,000 .. 1,000,000: below");
        String least = "[0-1000*1000]";
        is("0-999*1001", least + "+1", true);
        is("0-999*1001", least, false);
        is("0-999*1001-1", least, true);
        is(least + "+1", least, false);
        is(least + "-1", least, true);
        is("1001*[0-1000]", least, true);
        is("[0-1001]*1000", least, true);
        is("[0-9999]*9999", least, true);
        is(least + "+[0-1]", least, true);
        is(least, "1000*1000", false);
    }

    private static void cutBehindEachSign() {
        at("Behind each sign numbers are cut, not at the last");
        is("1000*1000+5-5", "1000*1000-5", true);
        is("1000*1000+5-5", "1000*1000", false);
        is("9999*9999/9999", "100", true);
        is("9999*9999/1000", "1000", true);
        is("9999*9999-9999*9999", "0", true);
        is("0-9999*9999+1000*1000", "0", true);
        is("[0-9999*9999]/1000", "[0-1000]", true);
        is("9999*1000/1000", "1000", true);
        is("9999*100/100", "9999", true);
        due("below", looks("y:1000*1000<1000*1000+1?1"), false);
        due("above", looks("y:1000*1000+1>1000*1000?1"), false);
        due("alike", looks("y:1000*1001=1001*1001?1"), true);
    }

    private static void dividing() {
        at("/ cuts towards 0, by 0 gives 0");
        is("7/2", "3", true);
        is("[0-7]/2", "0-3", true);
        is("7/[0-2]", "0-3", true);
        is("[0-7]/[0-2]", "3", true);
        is("1/2", "0", true);
        is("[0-1]/2", "0", true);
        is("6/2", "3", true);
        is("[0-6]/2", "0-3", true);
        is("7/1", "7", true);
        is("7/0", "0", true);
        is("0/0", "0", true);
        is("0/7", "0", true);
        is("[0-7]/0", "0", true);
        is("7/t", "0", true);
        is("7/[1-1]*5+2", "2", true);
        is("1000*1000/1", "1000*1000", true);
        is("[0-1000*1000]/[0-1]", "1000*1000", true);
    }

    private static void worthIsOfTheFirst() {
        at("WORTH: the SUM of the first CLAUSE whose CONDITION holds (or has none), 0 without");
        due("none holds", looks("y:1=2?1;y:1>1?1;y:1<1?1"), false);
        due("the first of two", looks("y:1=1?1;y:1=1?0"), true);
        due("the first of two", looks("y:1=1?0;y:1=1?1"), false);
        due("the second holds", looks("y:1=2?0;y:1=1?1;y:0"), true);
        due("the last has none", looks("y:1=2?0;y:1=3?0;y:1"), true);
        due("the first has none", looks("y:0;y:1=1?1;y:1"), false);
        due("the first has none", looks("y:1;y:1=1?0;y:0"), true);
        due("the last of forty", looks(many("y:0=1?0;", 18) + "y:1"), true);
        due("one alike", looks("y:1<1?0;y:1>1?0;y:1=1?1"), true);
        due("one less", looks("y:1=2?0;y:1>2?0;y:1<2?1"), true);
        due("one more", looks("y:2=1?0;y:2<1?0;y:2>1?1"), true);
        due("& of both", looks("y:1=1&2=2?1"), true);
        due("& of the first", looks("y:1=1&2=1?1"), false);
        due("& of the second", looks("y:1=2&2=2?1"), false);
        due("| of the first", looks("y:1=1|2=1?1"), true);
        due("| of the second", looks("y:1=2|2=2?1"), true);
        due("| of neither", looks("y:1=2|2=1?1"), false);
        due("!! in place of none", looks("y:!(!1=1&!1=1)?1"), true);
    }

    private static void worthAboveZero() {
        at("if the WORTH of that is above 0");
        due("0", looks("y:0"), false);
        due("1", looks("y:1"), true);
        due("-1", looks("y:0-1"), false);
        due("1000000", looks("y:1000*1000"), true);
        due("-1000000", looks("y:0-1000*1000"), false);
        due("d of DISTANCE 4", looks("y:d-3"), true);
        due("d of DISTANCE 4", looks("y:d-4"), false);
        due("d of DISTANCE 4", looks("y:d-5"), false);
    }

    private static void fullTape() {
        at("a HABIT of 160 bytes");
        String text = "y:" + many("0+", 78) + "01";
        due("its length", text.length(), 160);
        due("the last number counts", looks(text), true);
        due("the last number counts", looks("y:" + many("0+", 78) + "00"), false);
        due("many signs", looks("y:" + many("!!!!!!1=2|", 14) + "1=1?" + "1+1+1+1-3"), true);
        due("the first CLAUSES hold not", looks(many("y:1=2?0;", 19) + "y:1-0+0"), true);
        due("terms of one another", looks("y:1" + many("*1", 77) + "+0"), true);
        due("terms of one another", looks("y:1" + many("/1", 77) + "-1"), false);
        at("a TOWN of 160 bytes");
        String person = "pf59l60q60d9;";
        String all = many(person, 6) + "gf59l60q60v9;bh60k1r9;bh60k1r9" + many(" ", 160 - 108);
        due("its length", all.length(), 160);
        ShyBell x = town(all);
        due("PERSONS", x.count(0), 6);
        due("the last BELL", x.bell(1, 2), 9);
    }
}
