/**
 * For each promise what it says, at ordinary inputs, at its edges and at wrong inputs; worked out by
 * hand, but for what hangs on DRAWS (learner, wander), which a script apart from the program told.
 */
public final class PromiseTest {
    private static final Check CHECK = new Check("PromiseTest");

    private static final String ROD = "rod 2 thick 1 shrinks 0 price 0;";
    private static final String BAND = "band 1 before 1 behind 1 rounds 1 from 0 with 0;";

    /**
     * BAND 0: OOUUOOUU by both weavers, rows OUUO and OOUU by STAKES, twice. BAND 1, to the left:
     * OUUU UUUO UUUO by its slip, over at STAKES 0, 1, 1.
     */
    private static final String SMALL = "stakes 4;rod 5 thick 1 shrinks 0 price 2;"
            + "rod 10 thick 2 shrinks 50 price 3;"
            + "band 2 before 2 behind 2 rounds 2 from 3 with 0 1 in 1;"
            + "band 1 before 1 behind 3 rounds 3 from 0 with 1 left;"
            + "slip 1 0 4;overlap 1;wide 10;";

    public static void main(String[] args) {
        newObject();
        feed();
        basket();
        fault();
        faultKinds();
        bounds();
        rod();
        band();
        lean();
        crossing();
        seen();
        overs();
        run();
        step();
        counts();
        total();
        undo();
        mend();
        seam();
        turn();
        spiral();
        repeats();
        colour();
        floats();
        learner();
        wish();
        find();
        print();
        reads();
        nearest();
        rods();
        hide();
        reach();
        nest();
        plait();
        even();
        height();
        hold();
        width();
        bowl();
        wander();
        closes();
        border();
        ways();
        taught();
        lid();
        numbers();
        write();
        copy();
        image();
        status();
        count();
        CHECK.end();
    }

    private static void is(String what, long got, long want) {
        CHECK.is(what, got, want);
    }

    private static NoKnot small() {
        NoKnot x = new NoKnot();
        is("3 basket(small)", Check.basket(x, SMALL), 8);
        return x;
    }

    private static NoKnot told(String text) {
        NoKnot x = new NoKnot();
        int lines = (int) text.chars().filter(c -> c == ';').count();
        is("3 basket " + text, Check.basket(x, text), lines);
        return x;
    }

    // ---- texts

    private static void newObject() {
        NoKnot x = new NoKnot();
        int[] counts = {0, 0, 0, 0, 2, 100, 0, 0, -1, -1};
        for (int what = 0; what < counts.length; what++) is("1 count " + what, x.count(what), counts[what]);
        for (int what = 0; what < 6; what++) is("1 status " + what, x.status(what), 0);
        is("1 fault", x.fault(0), 0);
        is("1 fault's place", x.fault(1), -1);
        is("1 total", x.total(), 0);
        is("1 cost", x.cost(), 0);
        is("1 loose", x.loose(), -1);
        is("1 width", x.width(-1), 100);
        is("1 wander", x.wander(3, 1), 100);
        for (int row = 0; row < 4; row++) is("1 rows are missing", x.write(row, 0, 1), -6);
        for (int i = 0; i < 2; i++) is("1 no image", x.restore(i), -5);
        for (int h = 0; h < 8; h++) is("1 no ways", x.ways(h, -1), -1);
        is("1 no wish", x.find(0), -5);
        is("1 no print", x.reads(0, 0), -5);
    }

    private static void feed() {
        NoKnot x = new NoKnot();
        is("2 feed", x.feed(0x7374616b, 0x65732035, 0x3b202020, 0x20202020, 0x20202020), 20);
        is("2 the highest byte first", x.basket(9), 1);
        is("2 five stakes", x.count(0), 5);
        for (int k = 1; k <= 25; k++) is("2 feed", x.feed(0, 0, 0, 0, 0), 20 * k);
        is("2 more than 500", x.feed(0, 0, 0, 0, 0), -5);
        is("2 it stays", x.count(7), 500);
        is("2 counted", x.status(2), 1);
        is("2 a byte of 0", x.basket(500), -31);
        is("2 from the beginning again", x.feed(-1, -1, -1, -1, -1), 20);
        is("2 a byte of 255", x.basket(1), -31);
        is("2 behind those that are there", Check.feed(x, "stakes 3;rod 2 thick 1 "), 40);
        is("2 its bytes lie behind one another", x.basket(9), 1);
    }

    private static void basket() {
        NoKnot x = small();
        Check.feed(x, "stakes 5;");
        is("3 below 0", x.basket(-1), -3);
        is("3 above", x.basket(21), -3);
        is("3 the tape stays", x.count(7), 20);
        is("3 nothing is changed", x.count(0), 4);
        is("3 all of it", x.basket(20), 1);
        is("3 the tape is empty", x.count(7), 0);
        is("3 stakes", x.count(0), 5);
        is("3 what was is gone", x.count(2), 0);
        is("3 overlap is 2 again", x.count(4), 2);
        is("3 wide is 100 again", x.count(5), 100);
        is("3 no bytes", x.basket(0), 0);
        is("3 an empty one", x.count(0), 0);
        x = told("stakes 3;");
        Check.wish(x, "0.0;");
        Check.print(x, "ouo;");
        is("3 wish", x.count(8), 1);
        is("3 fault", Check.basket(x, "stakes 4; stakes"), -34);
        is("3 the tape is empty with a fault", x.count(7), 0);
        is("3 the basket stays with a fault", x.count(0), 3);
        is("3 the wish stays with a fault", x.count(8), 1);
        is("3 the print stays with a fault", x.count(9), 1);
        is("3 basket", Check.basket(x, "stakes 3;"), 1);
        is("3 the wish is gone", x.count(8), -1);
        is("3 the print is gone", x.count(9), -1);
        is("3 no blanks are needed", Check.basket(x, "stakes3;rod2thick1shrinks0price0;wide0010;\n\n"), 3);
        is("3 four digits", x.count(5), 10);
        is("3 later ones count", Check.basket(x, "wide 5;overlap 3;wide 6;overlap 20;"), 4);
        is("3 wide", x.count(5), 6);
        is("3 overlap", x.count(4), 20);
    }

    private static void fault() {
        NoKnot x = new NoKnot();
        is("4 fault", Check.basket(x, "wide 1;rod x"), -32);
        is("4 kind", x.fault(0), 2);
        is("4 place", x.fault(1), 11);
        Check.feed(x, "x");
        is("4 not read", x.basket(30), -3);
        is("4 of the latest that was read", x.fault(1), 11);
        x.basket(0);
        is("4 none", x.fault(0), 0);
        is("4 no place", x.fault(1), -1);
        is("4 others", x.fault(2), -1);
        is("4 others below", x.fault(-1), -1);
        is("4 they aren't refused", x.status(0), 0);
        x.image(0);
        Check.basket(x, "?");
        x.restore(0);
        is("4 an image doesn't keep it", x.fault(0), 1);
    }

    private static void faulty(String text, int kind, int place) {
        NoKnot x = new NoKnot();
        is("3 basket of " + text, Check.basket(x, text), -30 - kind);
        is("4 kind of " + text, x.fault(0), kind);
        is("4 place of " + text, x.fault(1), place);
        is("56 " + text, x.status(5), 1);
    }

    private static void faultKinds() {
        faulty("stakes 5:", 1, 8);
        faulty("Stakes 5;", 1, 0);
        faulty("stakes\t5;", 1, 6);
        faulty("wide 00001;", 1, 5);
        faulty("00001", 1, 0);
        faulty(";", 2, 0);
        faulty("wide 5;;", 2, 7);
        faulty("5;", 2, 0);
        faulty("stakes", 2, 6);
        faulty("stakes ", 2, 7);
        faulty("stakes 5", 2, 8);
        faulty("stakes stakes 5;", 2, 7);
        faulty("stake 5;", 2, 0);
        faulty("stakess 5;", 2, 0);
        faulty("rod 5 thin 1", 2, 6);
        faulty("wide 1000", 3, 5);
        faulty("wide 1 2;", 2, 7);
        faulty("band", 3, 0);
        faulty("stakes 3;stakes 2;", 4, 9);
        faulty("stakes 3;band 1 before 1 behind 1 rounds 1 from 0 with 0;", 3, 55);
        String two = "stakes 3;" + ROD + "band 2 before 1 behind 1 rounds 1 from 0 with ";
        int at = two.length();
        faulty(two + ";", 2, at);
        faulty(two + "0;", 2, at + 1);
        faulty(two + "0 left;", 2, at + 2);
        faulty(two + "0 1;", 3, at + 2);
        faulty(two + "0 0 0;", 2, at + 4);
        faulty(two + "0 0 1;", 2, at + 4);
        faulty(two + "0 0 00000;", 1, at + 4);
        faulty(two + "0 0 left left;", 2, at + 9);
        faulty(two + "0 0 out 1 left;", 2, at + 10);
        faulty(two + "0 0 out 1 in 1;", 2, at + 10);
        faulty(two + "0 0 out;", 2, at + 7);
        faulty(two + "0 0 in 10;", 3, at + 7);
        faulty(ROD.repeat(7), 4, 6 * ROD.length());
        String seven = "stakes 3;" + ROD + BAND.repeat(8);
        faulty(seven + "band", 4, seven.length());
        String slips = "stakes 3;" + ROD + BAND + "slip 0 0 2;".repeat(8);
        is("3 eight slips", Check.basket(new NoKnot(), slips), 11);
        is("3 eight bands", Check.basket(new NoKnot(), seven), 10);
        is("3 six rods", Check.basket(new NoKnot(), ROD.repeat(6)), 6);
        faulty(slips + "slip x", 4, slips.length());
        faulty("slip 0 0 0;", 3, 5);
        String one = "stakes 3;" + ROD + BAND;
        faulty(one + "slip 1 0 0;", 3, one.length() + 5);
        faulty(one + "slip 0 1 0;", 3, one.length() + 7);
        faulty(one + "slip 0 0 3;", 3, one.length() + 9);
        faulty(one + "slip 0 0;", 2, one.length() + 8);
    }

    private static void bound(String ahead, int low, int high, String behind) {
        for (int n : new int[] {low, high}) {
            is("3 " + ahead + n, Check.basket(new NoKnot(), ahead + n + behind) > 0 ? 1 : 0, 1);
        }
        if (low > 0) faulty(ahead + (low - 1) + behind, 3, ahead.length());
        faulty(ahead + (high + 1) + behind, 3, ahead.length());
    }

    private static void bounds() {
        bound("stakes ", 3, 32, ";");
        bound("rod ", 2, 99, " thick 1 shrinks 0 price 0;");
        bound("rod 2 thick ", 1, 9, " shrinks 0 price 0;");
        bound("rod 2 thick 1 shrinks ", 0, 50, " price 0;");
        bound("rod 2 thick 1 shrinks 0 price ", 0, 99, ";");
        bound("overlap ", 0, 20, ";");
        bound("wide ", 1, 999, ";");
        String ahead = "stakes 32;" + ROD;
        bound(ahead + "band 1 before ", 1, 4, " behind 1 rounds 1 from 0 with 0;");
        bound(ahead + "band 1 before 1 behind ", 1, 4, " rounds 1 from 0 with 0;");
        bound(ahead + "band 1 before 1 behind 1 rounds ", 1, 40, " from 0 with 0;");
        bound(ahead + "band 1 before 1 behind 1 rounds 1 from ", 0, 31, " with 0;");
        bound(ahead + ROD + "band 1 before 1 behind 1 rounds 1 from 0 with ", 0, 1, ";");
        bound(ahead + "band 1 before 1 behind 1 rounds 1 from 0 with 0 out ", 0, 9, ";");
        bound(ahead + "band 1 before 1 behind 1 rounds 1 from 0 with 0 in ", 0, 9, ";");
        bound(ahead + "band 1 before 1 behind 1 rounds 40 from 0 with 0;slip 0 0 ", 0, 1279, ";");
        faulty(ahead + "band 0 before", 3, ahead.length() + 5);
        faulty(ahead + "band 5 before", 3, ahead.length() + 5);
        faulty("wide 0;", 3, 5);
    }

    private static void rod() {
        NoKnot x = small();
        int[] want = {10, 2, 50, 3};
        for (int what = 0; what < 4; what++) is("5 rod " + what, x.rod(1, what), want[what]);
        is("5 length", x.rod(0, 0), 5);
        int[][] wrong = {{2, 0}, {-1, 0}, {0, 4}, {0, -1}, {Integer.MAX_VALUE, 0}, {Integer.MIN_VALUE, 3}};
        for (int[] w : wrong) is("5 none such", x.rod(w[0], w[1]), -2);
        is("5 counted", x.status(0), wrong.length);
    }

    private static void band() {
        NoKnot x = small();
        int[] first = {2, 2, 2, 2, 3, 0, 0};
        int[] second = {1, 1, 3, 3, 0, 1, 1};
        for (int what = 0; what < 7; what++) {
            is("6 band 0 " + what, x.band(0, what), first[what]);
            is("6 band 1 " + what, x.band(1, what), second[what]);
        }
        is("6 kind", x.band(0, 10), 0);
        is("6 kind", x.band(0, 11), 1);
        is("6 kind", x.band(1, 10), 1);
        int[][] wrong = {{2, 0}, {-1, 0}, {0, -1}, {0, 7}, {0, 9}, {0, 12}, {1, 11}, {0, Integer.MIN_VALUE}};
        for (int[] w : wrong) is("6 none such", x.band(w[0], w[1]), -2);
        is("6 counted", x.status(0), wrong.length);
        x = told("stakes 3;" + ROD + BAND + BAND + "slip 1 0 0;slip 1 0 0;slip 0 0 1;");
        is("6 slips", x.band(0, 6), 1);
        is("6 slips of one place", x.band(1, 6), 2);
    }

    private static void lean() {
        NoKnot x = small();
        is("7 in", x.lean(0), -1);
        is("7 without", x.lean(1), 0);
        is("7 none such", x.lean(2), -100);
        is("7 none such", x.lean(-1), -100);
        is("7 counted", x.status(0), 2);
        x = told("stakes 3;" + ROD + BAND.replace(";", " left out 9;") + BAND.replace(";", " in 9;"));
        is("7 out", x.lean(0), 9);
        is("7 in", x.lean(1), -9);
    }

    // ---- crossings

    private static void crossing() {
        NoKnot x = small();
        int[] over0 = {1, 1, 0, 0, 1, 1, 0, 0};
        int[] stake0 = {3, 0, 1, 2, 3, 0, 1, 2};
        int[] over1 = {1, 0, 0, 0, 0, 0, 0, 1, 0, 0, 0, 1};
        int[] stake1 = {0, 3, 2, 1, 0, 3, 2, 1, 0, 3, 2, 1};
        for (int i = 0; i < 8; i++) {
            for (int j = 0; j < 2; j++) {
                is("8 stake", x.crossing(0, j, i, 0), (stake0[i] + j) % 4);
                is("8 over", x.crossing(0, j, i, 1), over0[i]);
                is("8 when", x.crossing(0, j, i, 5), 2 * i + j);
            }
            is("8 rod", x.crossing(0, 0, i, 2), i < 4 ? 0 : 1);
            is("8 along", x.crossing(0, 0, i, 3), i % 4);
            is("8 thick end", x.crossing(0, 0, i, 4), i < 4 ? 1 : 0);
            is("8 one rod", x.crossing(0, 1, i, 2), 0);
            is("8 along one rod", x.crossing(0, 1, i, 3), i);
        }
        for (int i = 0; i < 12; i++) {
            is("8 stake, left", x.crossing(1, 0, i, 0), stake1[i]);
            is("8 over, with a slip", x.crossing(1, 0, i, 1), over1[i]);
            is("8 when", x.crossing(1, 0, i, 5), 16 + i);
            is("8 rod", x.crossing(1, 0, i, 2), i / 9);
            is("8 along", x.crossing(1, 0, i, 3), i % 9);
        }
        int[][] wrong = {{2, 0, 0, 0}, {-1, 0, 0, 0}, {0, 2, 0, 0}, {0, -1, 0, 0}, {0, 0, 8, 0}, {0, 0, -1, 0},
            {0, 0, 0, 6}, {0, 0, 0, -1}, {1, 0, 12, 0}};
        for (int[] w : wrong) is("8 none such", x.crossing(w[0], w[1], w[2], w[3]), -2);
        is("8 counted", x.status(0), wrong.length);
        // The last rod is as long as it goes: a STEP of 1 and a LENGTH of 5 for 6 CROSSINGS take 2 rods.
        x = told("stakes 6;rod 5 thick 1 shrinks 0 price 0;overlap 9;" + BAND);
        is("8 latest that began", x.crossing(0, 0, 5, 2), 1);
        is("8 along it", x.crossing(0, 0, 5, 3), 4);
        // Two slips at one index count as two.
        x = told("stakes 3;" + ROD + "band 1 before 2 behind 1 rounds 1 from 0 with 0;slip 0 0 1;slip 0 0 1;");
        is("8 ahead of slips", x.crossing(0, 0, 0, 1), 1);
        is("8 two slips", x.crossing(0, 0, 1, 1), 1);
        is("8 behind them", x.crossing(0, 0, 2, 1), 1);
    }

    private static void seen() {
        NoKnot x = small();
        int[][] outside = {{0, -1, -1, 0}, {1, 1, -1, -1}, {0, -1, -1, 0}, {1, 1, -1, -1}};
        for (int row = 0; row < 4; row++) {
            for (int s = 0; s < 4; s++) {
                is("9 outside", x.seen(0, row, s, false), outside[row][s]);
                is("9 inside", x.seen(0, row, s, true), outside[row][s] == -1 ? row % 2 : -1);
            }
        }
        is("9 left", x.seen(1, 1, 1, false), 1);
        is("9 left", x.seen(1, 1, 0, false), -1);
        is("9 NONE is no refusal", x.status(0), 0);
        int[][] wrong = {{2, 0, 0}, {-1, 0, 0}, {0, 4, 0}, {0, -1, 0}, {1, 3, 0}, {0, 0, 4}, {0, 0, -1}};
        for (int[] w : wrong) is("9 none such", x.seen(w[0], w[1], w[2], true), -2);
        is("9 counted", x.status(0), wrong.length);
    }

    private static void overs() {
        NoKnot x = small();
        int[] want = {4, 2, 0, 2};
        int[] second = {1, 2, 0, 0};
        for (int s = 0; s < 4; s++) {
            is("10 overs", x.overs(0, s), want[s]);
            is("10 overs, left", x.overs(1, s), second[s]);
        }
        int[][] wrong = {{2, 0}, {-1, 0}, {0, 4}, {0, -1}};
        for (int[] w : wrong) is("10 none such", x.overs(w[0], w[1]), -2);
    }

    private static void run() {
        NoKnot x = small();
        int[] want = {4, 1, 4, 1};
        int[] second = {2, 2, 3, 3};
        for (int s = 0; s < 4; s++) {
            is("11 run", x.run(0, s), want[s]);
            is("11 run, left", x.run(1, s), second[s]);
        }
        int[][] wrong = {{2, 0}, {-1, 0}, {0, 4}, {0, -1}};
        for (int[] w : wrong) is("11 none such", x.run(w[0], w[1]), -2);
    }

    private static void step() {
        NoKnot x = new NoKnot();
        is("12 out of step", x.step(999, 9, 9, 0), 9);
        is("12 rounds", x.step(999, 9, 9, 1), 2);
        is("12 turned over", x.step(999, 9, 9, 2), 1);
        is("12 not turned over", x.step(5, 2, 1, 2), 0);
        is("12 in step", x.step(3, 2, 1, 0), 0);
        is("12 at once", x.step(3, 2, 1, 1), 1);
        is("12 two of four", x.step(6, 2, 2, 2), 1);
        is("12 one of four", x.step(5, 2, 2, 2), 0);
        is("12 rounds", x.step(10, 3, 1, 1), 2);
        int[][] wrong = {{2, 1, 1, 0}, {1000, 1, 1, 0}, {3, 0, 1, 0}, {3, 10, 1, 0}, {3, 1, 0, 0}, {3, 1, 10, 0},
            {3, 1, 1, 3}, {3, 1, 1, -1}, {3, -1, 1, 0}};
        for (int[] w : wrong) is("12 can't be", x.step(w[0], w[1], w[2], w[3]), -3);
        is("12 counted", x.status(1), wrong.length);
    }

    private static void counts() {
        NoKnot x = new NoKnot();
        is("13 counts", x.counts(3, 999, 1, 1, 0), 498);
        is("13 counts", x.counts(3, 999, 1, 1, 1), 499);
        is("13 one", x.counts(7, 7, 2, 2, 3), 1);
        is("13 none", x.counts(7, 7, 2, 2, 4), 0);
        is("13 as a number it can't be", x.counts(7, 7, 2, 2, 7), 0);
        int[][] wrong = {{2, 5, 1, 1, 0}, {3, 1000, 1, 1, 0}, {6, 5, 1, 1, 0}, {3, 5, 0, 1, 0}, {3, 5, 1, 10, 0},
            {3, 5, 10, 1, 0}, {3, 5, 1, 0, 0}, {3, 5, 1, 1, -1}};
        for (int[] w : wrong) is("13 can't be", x.counts(w[0], w[1], w[2], w[3], w[4]), -3);
        is("13 counted", x.status(1), wrong.length);
    }

    private static void total() {
        is("14 total", small().total(), 28);
        is("14 no bands", told("stakes 9;").total(), 0);
        String most = "stakes 32;" + ROD + "band 4 before 1 behind 1 rounds 40 from 0 with 0 0 0 0;".repeat(8);
        is("14 the most", told(most).total(), 40960);
    }

    private static void undo() {
        NoKnot x = small();
        is("15 end", x.undo(0, 0, 0, true), 28);
        is("15 end", x.undo(1, 0, 11, true), 1);
        is("15 beginning", x.undo(0, 0, 0, false), 1);
        is("15 beginning", x.undo(0, 1, 3, false), 8);
        is("15 beginning", x.undo(1, 0, 11, false), 28);
        int[][] wrong = {{2, 0, 0}, {0, 2, 0}, {0, 0, 8}, {-1, 0, 0}, {0, -1, 0}, {0, 0, -1}};
        for (int[] w : wrong) is("15 none such", x.undo(w[0], w[1], w[2], true), -2);
    }

    private static void mend() {
        NoKnot x = small();
        is("16 first by the second weaver", x.mend(0, 0, 0), 27);
        is("16 first by the first weaver", x.mend(0, 0, 3), 28);
        is("16 second round", x.mend(0, 1, 3), 20);
        is("16 left", x.mend(1, 0, 0), 12);
        is("16 last round", x.mend(1, 2, 1), 1);
        int[][] wrong = {{2, 0, 0}, {-1, 0, 0}, {0, 2, 0}, {0, -1, 0}, {0, 0, 4}, {0, 0, -1}};
        for (int[] w : wrong) is("16 none such", x.mend(w[0], w[1], w[2]), -2);
    }

    private static void seam() {
        NoKnot x = small();
        is("17 seam", x.seam(0), 3);
        is("17 the last", x.seam(1), -1);
        is("17 none such", x.seam(2), -2);
        is("17 none such", x.seam(-1), -2);
        is("17 far off", x.seam(Integer.MAX_VALUE), -2);
        is("17 counted", x.status(0), 3);
    }

    private static void turn() {
        NoKnot x = small();
        is("18 turn", x.turn(0), 2);
        is("18 seam stays", x.seam(0), 3);
        is("18 the last", x.turn(1), -1);
        is("18 none such", x.turn(2), -2);
        is("18 none such", x.turn(-1), -2);
        // OUOU: from 1 and from 3 nothing is alike.
        x = told("stakes 4;" + ROD + BAND + BAND.replace("from 0", "from 3"));
        is("18 the least of like ones", x.turn(0), 1);
        is("18 seam", x.seam(0), 0);
    }

    private static void spiral() {
        NoKnot x = small();
        is("19 spiral, left", x.spiral(1, 0, 0), 1);
        is("19 none to turn", x.spiral(1, 0, 1), 0);
        is("19 as it was", x.spiral(0, 1, 0), 0);
        int[][] wrong = {{2, 0, 0}, {-1, 0, 0}, {0, 2, 0}, {0, -1, 0}, {0, 0, 1}, {0, 0, -1}, {1, 0, 2}};
        for (int[] w : wrong) is("19 none such", x.spiral(w[0], w[1], w[2]), -2);
        // OUO and then UOU: by none.
        x = told("stakes 3;" + ROD + BAND.replace("rounds 1", "rounds 2"));
        is("19 by none", x.spiral(0, 0, 0), -1);
        x = told("stakes 4;" + ROD + "band 1 before 2 behind 1 rounds 2 from 0 with 0;"
                + "band 1 before 2 behind 1 rounds 2 from 0 with 0 left;");
        // OOUO, and then OUOO.
        is("19 right", x.spiral(0, 0, 0), 3);
        is("19 left", x.spiral(1, 0, 0), 1);
    }

    private static void repeats() {
        NoKnot x = small();
        is("20 as many as weavers", x.repeats(0), 2);
        is("20 all", x.repeats(1), 3);
        is("20 none such", x.repeats(2), -2);
        is("20 none such", x.repeats(-1), -2);
        x = told("stakes 5;" + ROD + "band 2 before 1 behind 1 rounds 5 from 0 with 0 0;" + BAND);
        is("20 twice as many", x.repeats(0), 4);
        is("20 one row", x.repeats(1), 1);
        x = told("stakes 5;" + ROD + "band 1 before 1 behind 1 rounds 3 from 0 with 0;slip 0 0 14;");
        is("20 one slip at the end", x.repeats(0), 3);
    }

    private static void colour() {
        NoKnot x = small();
        int[] outside = {0, 1, -1, 0};
        int[] inside = {-1, 0, 0, 1};
        for (int s = 0; s < 4; s++) {
            is("21 outside", x.colour(0, s, false), outside[s]);
            is("21 inside", x.colour(0, s, true), inside[s]);
        }
        is("21 NONE is no refusal", x.status(0), 0);
        int[][] wrong = {{2, 0}, {-1, 0}, {0, 4}, {0, -1}};
        for (int[] w : wrong) is("21 none such", x.colour(w[0], w[1], false), -2);
    }

    private static void floats() {
        NoKnot x = small();
        is("22 floats", x.floats(0, 1), 8);
        is("22 none so long", x.floats(0, 2), 0);
        is("22 floats", x.floats(1, 1), 2);
        is("22 floats", x.floats(1, 3), 1);
        is("22 floats", x.floats(1, 5), 1);
        is("22 floats", x.floats(1, 6), 0);
        is("22 the most", x.floats(1, 9999), 0);
        is("22 can't be", x.floats(1, 0), -3);
        is("22 can't be", x.floats(1, 10000), -3);
        is("22 none such", x.floats(2, 1), -2);
        is("22 the band first", x.floats(-1, 0), -2);
    }

    private static void learner() {
        NoKnot x = small();
        // The first DRAW of seed 1 is 16838, 38 modulo 100.
        is("23 below c", x.learner(0, 1, 39, 0), 7);
        is("23 not below c", x.learner(0, 1, 38, 0), 6);
        int[][] wants = {{0, 30, 5, 9, 2}, {1, 10, 0, 0, -1}, {42, 50, 12, 9, 2}, {5, 0, 0, 0, -1}, {5, 100, 16, 8, 2}};
        for (int[] w : wants) {
            for (int what = 0; what < 3; what++) is("23 learner " + w[0], x.learner(0, w[0], w[1], what), w[2 + what]);
        }
        is("23 each one", x.learner(1, 7, 100, 0), 12);
        is("23 WHEN counts all bands", x.learner(1, 7, 100, 2), 16);
        int[][] wrong = {{2, 0, 0}, {-1, 0, 0}, {0, 0, 3}, {0, 0, -1}, {2, 101, 0}, {0, 101, 3}};
        for (int[] w : wrong) is("23 none such", x.learner(w[0], 1, w[1], w[2]), -2);
        is("23 can't be", x.learner(0, 1, 101, 0), -3);
        is("23 can't be", x.learner(0, 1, -1, 0), -3);
    }

    // ---- pictures

    private static void wish() {
        NoKnot x = new NoKnot();
        Check.feed(x, "012;");
        is("24 no stakes", x.wish(4), -5);
        is("24 no stakes first", x.wish(-1), -5);
        is("24 the tape stays", x.count(7), 20);
        x = told("stakes 3;");
        Check.feed(x, "01.;");
        is("24 below 0", x.wish(-1), -3);
        is("24 above", x.wish(21), -3);
        is("24 the tape stays", x.count(7), 20);
        is("24 a row", x.wish(4), 1);
        is("24 the tape is empty", x.count(7), 0);
        String[] none = {"01;", "0123;", "01.", "01.; ", " 01.;", "016;", "01o;", "01.;01;", "01.,", ";", "...;".repeat(9)};
        for (String text : none) {
            is("24 none: " + text, Check.wish(x, text), -9);
            is("24 the tape is empty", x.count(7), 0);
            is("24 that there was stays", x.count(8), 1);
        }
        is("24 no bytes", x.wish(0), -9);
        is("24 counted", x.status(5), none.length + 1);
        is("24 eight rows", Check.wish(x, "...;".repeat(8)), 8);
        is("24 rows", x.count(8), 8);
    }

    private static void find() {
        NoKnot x = told("stakes 4;");
        is("25 no wish", x.find(0), -5);
        is("25 no wish first", x.find(77), -5);
        // Two weavers of two KINDS, 1 before and 1 behind: from 0 to the right, K 2 first of K 2.
        Check.wish(x, "3.3.;.5.5;");
        int[] want = {2, 1, 1, 0, 0, 4};
        for (int what = 0; what < 6; what++) is("25 find " + what, x.find(what), want[what]);
        is("25 kind", x.find(10), 3);
        is("25 kind", x.find(11), 5);
        is("25 no such weaver", x.find(12), -1);
        is("25 no such weaver", x.find(13), -1);
        int[] wrong = {-1, 6, 7, 8, 9, 14, Integer.MAX_VALUE, Integer.MIN_VALUE};
        for (int what : wrong) is("25 another what", x.find(what), -2);
        is("25 counted", x.status(0), wrong.length);
        // One KIND: the same four with two weavers; with one weaver rows of an odd step don't go with 4 stakes.
        Check.wish(x, "3.3.;3.3.;");
        is("25 one weaver", x.find(0), 1);
        is("25 to both sides", x.find(5), 4);
        Check.wish(x, "3.5.;");
        for (int what = 0; what < 5; what++) is("25 none " + what, x.find(what), -1);
        is("25 none", x.find(5), 0);
        is("25 none", x.find(10), -1);
        Check.wish(x, "....;");
        is("25 the first crossing is over", x.find(5), 0);
        Check.wish(x, "4...;");
        // 1 before, 3 or 4 behind, to both sides.
        is("25 strokes", x.find(5), 4);
        is("25 behind", x.find(2), 3);
        Check.wish(x, "1...;.2..;..3.;...4;");
        // Four weavers: from 0 to the right, 3 or 4 behind; to the left the second one lies elsewhere.
        is("25 four weavers", x.find(0), 4);
        is("25 four weavers", x.find(5), 2);
        for (int j = 0; j < 4; j++) is("25 four kinds", x.find(10 + j), 1 + j);
        is("25 all over", Check.wish(x, "5555;"), 1);
        is("25 before 4, behind any, from any, both", x.find(5), 32);
        is("25 before", x.find(1), 4);
    }

    private static void print() {
        NoKnot x = new NoKnot();
        Check.feed(x, "ou?;");
        is("26 no stakes", x.print(4), -5);
        is("26 no stakes first", x.print(99), -5);
        x = told("stakes 3;");
        Check.feed(x, "ou?;");
        is("26 below 0", x.print(-1), -3);
        is("26 above", x.print(21), -3);
        is("26 a row", x.print(4), 1);
        is("26 rows", x.count(9), 1);
        is("26 no wish by it", x.count(8), -1);
        for (String text : new String[] {"ou.;", "ou;", "ou?", "ou?;;", "OUO;", "???;".repeat(9)}) {
            is("26 none: " + text, Check.print(x, text), -9);
            is("26 that there was stays", x.count(9), 1);
        }
        is("26 eight rows", Check.print(x, "???;".repeat(8)), 8);
    }

    private static void reads() {
        NoKnot x = told("stakes 4;");
        is("27 no print", x.reads(0, 0), -5);
        is("27 no print first", x.reads(9, 9), -5);
        Check.print(x, "ouuu;");
        is("27 all", x.reads(0, 0), 4);
        is("27 left", x.reads(0, 1), 2);
        // From inside U at STAKE 3 alone: OOOU (3 before, 1 to 4 behind) and OOUO (2 before, 1 behind).
        is("27 other side", x.reads(1, 0), 10);
        is("27 other side, left", x.reads(1, 1), 5);
        Check.print(x, "????;");
        is("27 any", x.reads(0, 0), 128);
        is("27 any, left", x.reads(1, 1), 64);
        Check.print(x, "????;????;????;");
        is("27 three rows: one weaver or three", x.reads(0, 0), 256);
        int[][] wrong = {{2, 0}, {-1, 0}, {0, 2}, {0, -1}};
        for (int[] w : wrong) is("27 none such", x.reads(w[0], w[1]), -2);
        is("27 counted", x.status(0), wrong.length);
    }

    private static void nearest() {
        NoKnot x = told("stakes 4;");
        is("28 no print", x.nearest(0, 0), -5);
        is("28 no print first", x.nearest(7, 7), -5);
        Check.print(x, "uouo;");
        int[] want = {0, 1, 1, 1, 1, 0};
        for (int what = 0; what < 6; what++) is("28 nearest " + what, x.nearest(0, what), want[what]);
        // The other way round OUOU, and each sign the other one: UOUO again.
        int[] other = {0, 1, 1, 1, 1, 0};
        for (int what = 0; what < 6; what++) is("28 nearest inside " + what, x.nearest(1, what), other[what]);
        Check.print(x, "uuuu;");
        int[] one = {1, 1, 1, 3, 0, 0};
        for (int what = 0; what < 6; what++) is("28 one mistake " + what, x.nearest(0, what), one[what]);
        Check.print(x, "uuou;uouu;ouuu;uuuo;");
        // One weaver from 2 to the left that falls back by one each round.
        int[] left = {0, 1, 1, 4, 2, 1};
        for (int what = 0; what < 6; what++) is("28 left " + what, x.nearest(0, what), left[what]);
        Check.print(x, "oouu;uoou;uuoo;ouuo;");
        // Two weavers that lie the other way round each second row; four could do it, too.
        int[] two = {0, 2, 2, 4, 0, 0};
        for (int what = 0; what < 6; what++) is("28 two weavers " + what, x.nearest(0, what), two[what]);
        int[][] wrong = {{2, 0}, {-1, 0}, {0, 6}, {0, -1}};
        for (int[] w : wrong) is("28 none such", x.nearest(w[0], w[1]), -2);
    }

    // ---- rods

    private static void rods() {
        NoKnot x = small();
        is("29 rods", x.rods(0), 2);
        is("29 rods", x.rods(1), 3);
        is("30 waste", x.waste(0), 1);
        is("30 waste", x.waste(1), 9);
        is("31 cost", x.cost(), 13);
        is("32 cheaper", x.cheaper(0), 1);
        is("32 the first of like ones", x.cheaper(1), 0);
        is("33 all joins", x.joins(0, false), 1);
        is("33 joins seen", x.joins(0, true), 1);
        is("33 all joins", x.joins(1, false), 1);
        is("33 joins seen", x.joins(1, true), 0);
        for (int none : new int[] {2, -1, Integer.MAX_VALUE, Integer.MIN_VALUE}) {
            is("29 none such", x.rods(none), -2);
            is("30 none such", x.waste(none), -2);
            is("32 none such", x.cheaper(none), -2);
            is("33 none such", x.joins(none, true), -2);
        }
        is("29 to 33 counted", x.status(0), 16);
        // A STEP of 1 at least: LENGTH 2 for 6 CROSSINGS takes 5 rods, nothing left.
        x = told("stakes 6;" + ROD + "overlap 20;" + BAND);
        is("29 a step of 1", x.rods(0), 5);
        is("30 nothing left", x.waste(0), 0);
        is("33 joins", x.joins(0, false), 4);
        is("33 seen", x.joins(0, true), 2);
        x = told("stakes 6;rod 6 thick 1 shrinks 0 price 7;rod 99 thick 1 shrinks 0 price 8;" + BAND);
        is("29 just so long", x.rods(0), 1);
        is("29 no band takes it", x.rods(1), 0);
        is("30 no band takes it", x.waste(1), 0);
        is("31 cost", x.cost(), 7);
    }

    private static void hide() {
        NoKnot x = small();
        is("34 overlap", x.hide(0, 0), 2);
        is("34 how many", x.hide(0, 1), 0);
        is("34 the least of like ones", x.hide(1, 0), 0);
        is("34 count stays", x.count(4), 1);
        int[][] wrong = {{2, 0}, {-1, 0}, {0, 2}, {0, -1}};
        for (int[] w : wrong) is("34 none such", x.hide(w[0], w[1]), -2);
        // LENGTH 2: a STEP of 2 begins at 2 and 4, which are over; a STEP of 1 at 1 to 4, two of which are.
        x = told("stakes 6;" + ROD + BAND);
        is("34 none better", x.hide(0, 0), 0);
        is("34 two all the same", x.hide(0, 1), 2);
        // By its slips under at 4 and then over up to 24: only a STEP of 4 hides the one join.
        x = told("stakes 5;rod 24 thick 1 shrinks 0 price 0;band 1 before 4 behind 1 rounds 5 from 0 with 0;"
                + "slip 0 0 9;slip 0 0 13;slip 0 0 17;slip 0 0 21;");
        is("34 the greatest overlap", x.hide(0, 0), 20);
        is("34 none", x.hide(0, 1), 0);
    }

    private static void reach() {
        NoKnot x = told("overlap 3;");
        Check.row(x, 0, 1, 10, 7, 7, 4);
        is("35 one", x.reach(0, 10, 0), 1);
        is("35 nothing left", x.reach(0, 10, 1), 0);
        is("35 which", x.reach(0, 10, 2), 1);
        is("35 the least bits", x.reach(0, 7, 2), 2);
        is("35 two", x.reach(0, 11, 0), 2);
        is("35 least left over", x.reach(0, 11, 1), 0);
        is("35 of these", x.reach(0, 11, 2), 6);
        is("35 all", x.reach(0, 19, 2), 15);
        is("35 they don't", x.reach(0, 20, 0), -1);
        is("35 they don't", x.reach(0, 9999, 2), -1);
        is("35 can't be", x.reach(0, 10000, 0), -3);
        is("35 can't be", x.reach(0, 0, 0), -3);
        is("35 missing", x.reach(1, 1, 0), -6);
        is("35 missing first", x.reach(1, 0, 0), -6);
        is("35 none such", x.reach(4, 1, 0), -2);
        is("35 none such", x.reach(-1, 1, 0), -2);
        is("35 what first", x.reach(1, 0, 3), -2);
        is("35 what", x.reach(0, 1, -1), -2);
        Check.row(x, 2, 3);
        is("35 no numbers", x.reach(2, 1, 0), -3);
        Check.row(x, 2, 3, 1, 1, 1, 1, 1, 1, 1, 1, 1, 1);
        is("35 ten numbers", x.reach(2, 1, 0), -3);
        Check.row(x, 2, 3, 1, 1000);
        is("35 a great number", x.reach(2, 1, 0), -3);
        Check.row(x, 2, 3, 1L << 32 | 5, 0);
        is("35 a greater number", x.reach(2, 1, 0), -3);
        Check.row(x, 2, 3, 999, 999, 999, 999, 999, 999, 999, 999, 999);
        is("35 nine numbers", x.reach(2, 9 * 999 - 8 * 3, 0), 9);
        is("35 no rod is no set", told("overlap 20;").reach(0, 1, 0), -6);
        x = told("overlap 20;");
        Check.row(x, 0, 0, 50, 1, 1);
        is("35 one does, though all together don't", x.reach(0, 50, 2), 1);
        Check.row(x, 0, 0, 1, 1);
        is("35 no rod is no set", x.reach(0, 1, 0), 1);
    }

    private static void nest() {
        NoKnot x = new NoKnot();
        Check.row(x, 0, 1, 9, 1, 5, 3, 7);
        is("36 nest", x.nest(0, 0), 5);
        is("36 nest", x.nest(0, 2), 5);
        is("36 nest", x.nest(0, 3), 3);
        is("36 nest", x.nest(0, 999), 1);
        is("36 can't be", x.nest(0, 1000), -3);
        is("36 can't be", x.nest(0, -1), -3);
        Check.row(x, 1, 0);
        is("36 of 0", x.nest(1, 5), 0);
        Check.row(x, 1, 2, 9999, 1);
        is("36 greatest", x.nest(1, 1), 2);
        Check.row(x, 1, 2, 10000, 1);
        is("36 too great", x.nest(1, 1), -3);
        Check.row(x, 1, 2, 5, 0);
        is("36 too small", x.nest(1, 1), -3);
        long[] forty = new long[40];
        for (int k = 0; k < 40; k++) forty[k] = 40 - k;
        Check.row(x, 1, 0, forty);
        is("36 forty", x.nest(1, 1), 40);
        is("36 missing", x.nest(2, -1), -6);
        is("36 none such", x.nest(4, -1), -2);
        is("36 none such", x.nest(-1, 0), -2);
    }

    private static void plait() {
        NoKnot x = new NoKnot();
        Check.row(x, 0, 0, 0, 2, -2);
        // abcd: bacd, badc, bdac
        int[] want = {1, 3, 0, 2};
        for (int k = 0; k < 9; k++) is("37 place " + k, x.plait(0, 4, 10 + k), k < 4 ? want[k] : -1);
        is("37 order", x.plait(0, 4, 0), 4);
        is("37 none loose", x.plait(0, 4, 1), 3);
        is("37 two strands have no such place", x.plait(0, 2, 0), -3);
        is("37 three strands: k is 1 at most", x.plait(0, 3, 1), -3);
        Check.row(x, 1, 0, 1, 0, -1, -2, 0, 0);
        is("37 loose ones fall out again and again", x.plait(1, 3, 1), 2);
        is("37 order of them", x.plait(1, 3, 0), 1);
        Check.row(x, 1, 0, -1);
        is("37 two strands", x.plait(1, 2, 0), 2);
        Check.row(x, 1, 0, -2);
        is("37 -1 less k, k too great", x.plait(1, 2, 0), -3);
        Check.row(x, 1, 3, 1L << 32);
        is("37 a great number", x.plait(1, 9, 0), -3);
        Check.row(x, 1, 0);
        is("37 none: order", x.plait(1, 9, 0), 1);
        is("37 none: loose", x.plait(1, 9, 1), 0);
        is("37 none: place", x.plait(1, 9, 18), 8);
        is("37 m", x.plait(1, 1, 0), -3);
        is("37 m", x.plait(1, 10, 0), -3);
        is("37 m ahead of the place", x.plait(1, 10, 18), -3);
        is("37 missing", x.plait(2, 0, 0), -6);
        int[] wrong = {-1, 2, 9, 19, Integer.MIN_VALUE};
        for (int what : wrong) is("37 what", x.plait(2, 0, what), -2);
        is("37 none such", x.plait(4, 3, 0), -2);
        is("37 none such", x.plait(-1, 3, 0), -2);
        is("37 -2", x.status(0), wrong.length + 2);
    }

    private static void even() {
        NoKnot x = new NoKnot();
        Check.row(x, 0, 0, 1, 1, 9, 9);
        // 1 9 1 9: all halves alike; the first such order is 0 2 1 3.
        int[] want = {0, 2, 1, 3, -1, -1, -1, -1};
        is("38 difference", x.even(0, -1), 0);
        for (int k = 0; k < 8; k++) is("38 place " + k, x.even(0, k), want[k]);
        Check.row(x, 0, 0, 7, 3);
        is("38 two", x.even(0, -1), 4);
        is("38 two", x.even(0, 1), 1);
        is("38 no such place", x.even(0, 2), -1);
        Check.row(x, 0, 0, 5, 5, 5, 5, 5, 5, 5, 5);
        for (int k = 0; k < 8; k++) is("38 like ones", x.even(0, k), k);
        is("38 what", x.even(0, 8), -2);
        is("38 what", x.even(0, -2), -2);
        is("38 what ahead of missing", x.even(1, 8), -2);
        is("38 missing", x.even(1, 0), -6);
        is("38 none such", x.even(4, 0), -2);
        for (int size : new int[] {0, 1, 3, 5, 7, 9, 10}) {
            x.numbers(0, 0, size);
            for (int k = 0; k < size; k++) x.write(0, k, 1);
            is("38 so many can't be", x.even(0, 0), -3);
        }
        Check.row(x, 0, 1, 99, 100);
        is("38 too thick", x.even(0, 0), -3);
        Check.row(x, 0, 1, 99, 0);
        is("38 too thin", x.even(0, 0), -3);
        Check.row(x, 0, 1, 99, 1);
        is("38 just so", x.even(0, -1), 98);
    }

    // ---- dry, form

    private static void height() {
        NoKnot x = small();
        is("39 wet", x.height(0, false), 600);
        is("39 dry", x.height(0, true), 400);
        is("39 wet", x.height(1, false), 600);
        is("39 dry", x.height(1, true), 300);
        is("39 all wet", x.height(-1, false), 1200);
        is("39 all dry", x.height(-1, true), 700);
        is("39 none such", x.height(2, true), -2);
        is("39 none such", x.height(-2, true), -2);
        is("40 loose", x.loose(), 1);
        is("40 no band", told("stakes 3;").loose(), -1);
        is("40 none shrinks: the first", told("stakes 3;" + ROD + BAND + BAND).loose(), 0);
        String two = "stakes 3;rod 2 thick 1 shrinks 10 price 0;rod 2 thick 9 shrinks 10 price 0;";
        is("40 as fractions", told(two + BAND + BAND.replace("with 0", "with 1")).loose(), 0);
    }

    private static void hold() {
        NoKnot x = small();
        is("41 hold", x.hold(0), 600);
        is("41 hold", x.hold(1), 400);
        is("41 none such", x.hold(2), -2);
        is("41 none such", x.hold(-1), -2);
        is("42 below none", x.gives(400), 0);
        is("42 below one", x.gives(401), 2);
        is("42 below one", x.gives(600), 2);
        is("42 below both", x.gives(601), 3);
        is("42 0", x.gives(0), 0);
        is("42 can't be", x.gives(-1), -3);
        // 1 before and 1 behind by 32 stakes: every CROSSING but the first changes.
        x = told("stakes 32;" + ROD + BAND.replace("rounds 1", "rounds 40"));
        is("41 over the rounds", x.hold(0), 1279 * 100);
    }

    private static void width() {
        NoKnot x = small();
        is("43 wide", x.width(-1), 10);
        is("43 behind 0", x.width(0), 8);
        is("43 behind 1", x.width(1), 8);
        is("43 none such", x.width(2), -2);
        is("43 none such", x.width(-2), -2);
        x = told("stakes 3;" + ROD + "wide 5;" + BAND.replace(";", " in 9;") + BAND.replace(";", " out 2;"));
        is("43 1 at least", x.width(0), 1);
        is("43 from there on", x.width(1), 3);
    }

    private static void bowl() {
        NoKnot x = small();
        Check.row(x, 0, 2, 20, 11);
        // ROUNDS 2 and 3, from 10: 5 makes 20, -3 makes 11.
        is("44 differences", x.bowl(0, 8, -1), 0);
        is("44 lean", x.bowl(0, 8, 0), 5);
        is("44 lean", x.bowl(0, 8, 1), -3);
        // Neighbours alike: l makes 10 + 2 l and 10 + 5 l; 0: 10 + 1, 1: 8 + 4.
        is("44 d 0", x.bowl(0, 0, -1), 11);
        is("44 d 0", x.bowl(0, 0, 0), 0);
        Check.row(x, 0, 2, 1, 1);
        // -9 to -5 make 1 and then 1: the first is -9, -9.
        is("44 the first of like ones", x.bowl(0, 18, 0), -9);
        is("44 the first of like ones", x.bowl(0, 18, 1), -9);
        is("44 1 at least", x.bowl(0, 18, -1), 0);
        Check.row(x, 0, 2, 9999, 9999);
        is("44 as wide as can be", x.bowl(0, 18, -1), 9999 - 28 + 9999 - 55);
        is("44 as wide as can be", x.bowl(0, 18, 1), 9);
        int[][] wrong = {{4, 1, 0}, {-1, 1, 0}, {1, 1, 0}, {0, 19, 0}, {0, -1, 0}, {0, 1, 2}, {0, 1, -2}};
        for (int[] w : wrong) is("44 -100", x.bowl(w[0], w[1], w[2]), -100);
        Check.row(x, 0, 2, 9, 9, 9);
        is("44 more numbers", x.bowl(0, 1, 0), -100);
        Check.row(x, 0, 2, 9);
        is("44 fewer numbers", x.bowl(0, 1, 0), -100);
        Check.row(x, 0, 2, 0, 1);
        is("44 a wish of 0", x.bowl(0, 1, 0), -100);
        Check.row(x, 0, 2, 1, 10000);
        is("44 a wish of 10000", x.bowl(0, 1, 0), -100);
        is("44 counted as -3", x.status(1), wrong.length + 4);
        is("44 not as -2", x.status(0), 0);
        x = told("stakes 3;");
        Check.row(x, 0, 2);
        is("44 no bands", x.bowl(0, 1, -1), -100);
    }

    private static void wander() {
        NoKnot x = small();
        int[][] wants = {{0, 5, 5, 8}, {1, 5, 5, 10}, {7, 9, 8, 9}, {-5, 11, 9, 11}, {123456, 6, 6, 8}};
        for (int[] w : wants) {
            for (int what = 0; what < 3; what++) is("45 wander " + w[0], x.wander(w[0], what), w[1 + what]);
        }
        is("45 what", x.wander(0, 3), -2);
        is("45 what", x.wander(0, -1), -2);
        x = told("wide 7;");
        for (int what = 0; what < 3; what++) is("45 wide without", x.wander(0, what), 7);
        x = told("stakes 3;" + ROD + "wide 5;" + BAND.replace(";", " in 9;"));
        is("45 1 at least", x.wander(3, 0), 1);
        is("45 behind rounds alone", x.wander(3, 2), 1);
    }

    // ---- borders, hands, lids

    private static void closes() {
        NoKnot x = new NoKnot();
        is("46 none such", x.closes(4), -2);
        is("46 none such", x.closes(-1), -2);
        is("46 no stakes ahead of missing", x.closes(0), -5);
        x = told("stakes 4;");
        is("46 missing", x.closes(0), -6);
        Check.row(x, 0, 0, 1);
        is("46 one move", x.closes(0), 1);
        Check.row(x, 0, 0, 3, 1);
        is("46 two moves", x.closes(0), 1);
        Check.row(x, 0, 0, 2, 1);
        is("46 two to one stake", x.closes(0), 0);
        // Only the first four of five moves are made.
        Check.row(x, 0, 0, 1, 1, 1, 1, 3);
        is("46 more moves than stakes", x.closes(0), 1);
        Check.row(x, 0, 0, 1, 1, 1, 1, 4);
        is("46 one can't be", x.closes(0), -3);
        Check.row(x, 0, 0, 0);
        is("46 one can't be", x.closes(0), -3);
        Check.row(x, 0, 0);
        is("46 no number", x.closes(0), -3);
        Check.row(x, 0, 3, 1L << 40 | 1);
        is("46 a great one", x.closes(0), -3);
    }

    private static void border() {
        NoKnot x = new NoKnot();
        is("47 no stakes first", x.border(0, 0, 9), -5);
        x = told("stakes 4;");
        // By evens and odds: like moves (11, 22, 33), or 1 3 and 3 1.
        is("47 how many", x.border(2, 3, 0), 5);
        is("47 least sum", x.border(2, 3, 1), 2);
        is("47 the first", x.border(2, 3, 2), 11);
        is("47 four moves", x.border(4, 1, 2), 1111);
        // 4 stakes by 4 moves: those of 1 to 3 by which all go elsewhere: derangements of 4.
        is("47 derangements", x.border(4, 3, 0), 9);
        is("47 one move", x.border(1, 3, 0), 3);
        int[][] wrong = {{0, 1}, {5, 1}, {1, 0}, {1, 7}, {1, 4}};
        for (int[] w : wrong) is("47 can't be, ahead of what", x.border(w[0], w[1], 3), -3);
        is("47 what", x.border(1, 1, 3), -2);
        is("47 what", x.border(1, 1, -1), -2);
        x = told("stakes 7;");
        is("47 the most", x.border(1, 6, 0), 6);
        is("47 more", x.border(1, 7, 0), -3);
    }

    private static void ways() {
        NoKnot x = new NoKnot();
        is("48 none told", x.ways(0, 255), -1);
        is("48 those it had", x.ways(0, 0), 255);
        is("48 told no more", x.ways(0, -1), 0);
        is("48 none told", x.ways(0, 1), -1);
        is("48 can't be", x.ways(0, 256), -3);
        is("48 can't be", x.ways(0, -2), -3);
        is("48 stays", x.ways(0, 2), 1);
        is("48 none such", x.ways(8, 256), -2);
        is("48 none such", x.ways(-1, 0), -2);
        is("48 counted", x.status(0), 2);
        is("48 counted", x.status(1), 2);
    }

    private static void taught() {
        NoKnot x = new NoKnot();
        is("49 none", x.taught(-1), 0);
        is("49 not told", x.taught(3), -2);
        x.ways(1, 0b1111);
        is("49 by nobody", x.taught(1), -1);
        is("49 alone", x.taught(-1), 0);
        x.ways(3, 0b0000);
        x.ways(5, 0b0011);
        x.ways(7, 0b1100);
        // 5 (2 from 1) ahead of 7 (2 from 1), then 3: 2 from 5; 7 by 1.
        int[] want = {-2, -1, -2, 5, -2, 1, -2, 1};
        for (int h = 0; h < 8; h++) is("49 taught " + h, x.taught(h), want[h]);
        is("49 all", x.taught(-1), 6);
        is("49 none such", x.taught(8), -2);
        is("49 none such", x.taught(-2), -2);
        x.ways(1, -1);
        is("49 the least told is first", x.taught(3), -1);
    }

    private static void lid() {
        NoKnot x = small();
        // KIND 1 dries by half: a rim of 10 of KIND 0 stays 10.
        is("50 least", x.lid(1, 0, 10, 2, 0), 22);
        is("50 greatest", x.lid(1, 0, 10, 2, 1), 25);
        is("50 how many", x.lid(1, 0, 10, 2, 2), 4);
        is("50 one kind", x.lid(0, 0, 1500, 99, 1), 1599);
        is("50 the other way", x.lid(0, 1, 3, 1, 0), 2);
        is("50 up to 2000", x.lid(1, 0, 990, 99, 0), 1982);
        is("50 up to 2000", x.lid(1, 0, 990, 99, 1), 2000);
        is("50 up to 2000", x.lid(1, 0, 990, 99, 2), 19);
        is("50 just one", x.lid(1, 0, 999, 1, 2), 1);
        is("50 none", x.lid(1, 0, 1000, 99, 0), -1);
        is("50 none", x.lid(1, 0, 1000, 99, 1), -1);
        is("50 none", x.lid(1, 0, 1000, 99, 2), 0);
        int[][] none = {{2, 0, 1, 1, 0}, {0, 2, 1, 1, 0}, {-1, 0, 1, 1, 0}, {0, -1, 0, 0, 0}, {0, 0, 0, 0, 3}, {0, 0, 1, 1, -1}};
        for (int[] w : none) is("50 none such", x.lid(w[0], w[1], w[2], w[3], w[4]), -2);
        int[][] wrong = {{0, 1}, {1501, 1}, {1, 0}, {1, 100}, {-1, 1}};
        for (int[] w : wrong) is("50 can't be", x.lid(0, 0, w[0], w[1], 0), -3);
    }

    // ---- rows of numbers, images

    private static void numbers() {
        NoKnot x = new NoKnot();
        for (int row = 0; row < 4; row++) is("51 numbers", x.numbers(row, row, 40 - row), 0);
        x.write(0, 0, 9);
        is("51 stays when refused", x.numbers(0, 0, 41), -3);
        is("51 below 0", x.numbers(0, 0, -1), -3);
        is("51 none such", x.numbers(4, 0, 99), -2);
        is("51 none such", x.numbers(-1, 0, 0), -2);
        is("51 no such sort", x.numbers(0, 4, 99), -2);
        is("51 no such sort", x.numbers(0, -1, 0), -2);
        is("51 it stays", x.write(0, 39, 1), 1);
        is("51 another one", x.numbers(0, 3, 1), 0);
        is("51 in place of it", x.write(0, 1, 1), -7);
        is("51 of another sort", x.write(0, 0, 1L << 40), 1L << 40);
        is("51 no numbers", x.numbers(0, 0, 0), 0);
        is("51 it isn't missing", x.nest(0, 0), 0);
        is("51 all 0", x.numbers(0, 0, 2), 0);
        is("51 all 0", x.nest(0, 0), -3);
        is("51 plait of zeros", x.plait(0, 2, 1), 2);
    }

    private static void write() {
        NoKnot x = new NoKnot();
        is("52 missing", x.write(0, 0, 1), -6);
        for (int row = 0; row < 4; row++) x.numbers(row, row, 2);
        long great = 0x123456789abcdef0L;
        is("52 8 bits", x.write(0, 0, great), (byte) great);
        is("52 16 bits", x.write(1, 0, great), (short) great);
        is("52 32 bits", x.write(2, 0, great), (int) great);
        is("52 64 bits", x.write(3, 1, great), great);
        is("52 128 of 8 bits", x.write(0, 1, 128), -128);
        is("52 65535 of 16 bits", x.write(1, 1, 65535), -1);
        is("52 least", x.write(3, 0, Long.MIN_VALUE), Long.MIN_VALUE);
        is("52 no such number", x.write(0, 2, 1), -7);
        is("52 no such number", x.write(0, -1, 1), -7);
        is("52 none such", x.write(4, 0, 1), -2);
        is("52 none such", x.write(-1, -1, 1), -2);
        is("52 counted", x.status(4), 2);
        is("52 counted", x.status(3), 1);
    }

    private static void copy() {
        NoKnot x = small();
        // BAND 1 from 10 on: U O, round to O U U U U U U O U.
        long[] want = {0, 1, 1, 0, 0, 0, 0, 0, 0, 1, 0};
        x.numbers(0, 0, want.length);
        is("53 how many", x.copy(1, 0, 10, 0), want.length);
        for (int k = 0; k < want.length; k++) {
            // A WIDTH can't be 0: nest() tells whether this one is, once all others are 1.
            NoKnot y = small();
            y.numbers(0, 0, want.length);
            y.copy(1, 0, 10, 0);
            for (int other = 0; other < want.length; other++) if (other != k) y.write(0, other, 1);
            is("53 number " + k, y.nest(0, 0), want[k] == 1 ? want.length : -3);
        }
        x.numbers(0, 0, 0);
        is("53 no places", x.copy(0, 0, 0, 0), 0);
        is("53 missing", x.copy(0, 0, 0, 1), -6);
        int[][] wrong = {{2, 0, 0, 0}, {0, 2, 0, 0}, {0, 0, 8, 0}, {0, 0, -1, 0}, {0, 0, 0, 4}, {0, 0, 0, -1}, {-1, 0, 0, 1}};
        for (int[] w : wrong) is("53 none such", x.copy(w[0], w[1], w[2], w[3]), -2);
        is("53 counted", x.status(0), wrong.length);
    }

    private static void image() {
        NoKnot x = small();
        Check.wish(x, "0.0.;");
        Check.print(x, "ouou;");
        x.ways(2, 77);
        Check.row(x, 0, 0, 5);
        is("54 image", x.image(0), 0);
        is("54 none such", x.image(2), -2);
        is("54 none such", x.image(-1), -2);
        is("55 none such", x.restore(2), -2);
        is("55 none such", x.restore(-1), -2);
        is("55 none was made", x.restore(1), -5);
        int found = x.find(5);
        int read = x.reads(0, 0);
        int hold = x.hold(0);
        Check.basket(x, "stakes 5;" + ROD + BAND);
        Check.wish(x, "0.0..;0.0..;");
        x.ways(2, 1);
        x.ways(3, 1);
        x.find(5);
        x.hold(0);
        x.write(0, 0, 6);
        is("54 image", x.image(1), 0);
        Check.feed(x, "x");
        is("55 restore", x.restore(0), 0);
        is("55 the tape stays", x.count(7), 20);
        is("55 the row stays", x.nest(0, 0), 1);
        is("55 stakes", x.count(0), 4);
        is("55 lines", x.count(6), 8);
        is("55 slips", x.count(3), 1);
        is("55 overlap", x.count(4), 1);
        is("55 wish", x.count(8), 1);
        is("55 print", x.count(9), 1);
        is("55 find", x.find(5), found);
        is("55 reads", x.reads(0, 0), read);
        is("55 hold", x.hold(0), hold);
        is("55 ways", x.ways(2, 0), 77);
        is("55 not told", x.ways(3, 0), -1);
        is("55 restore", x.restore(1), 0);
        is("55 stakes", x.count(0), 5);
        is("55 wish", x.count(8), 2);
        is("55 no print", x.count(9), -1);
        is("55 no print", x.nearest(0, 0), -5);
        is("55 ways", x.ways(3, 9), 1);
        is("55 again", x.restore(0), 0);
        is("55 as it was made", x.ways(2, 0), 77);
    }

    private static void status() {
        NoKnot x = new NoKnot();
        x.rod(0, 0);
        x.lean(0);
        x.gives(-1);
        x.bowl(0, 0, 0);
        x.basket(1);
        x.find(0);
        x.nest(0, 0);
        x.nest(0, 0);
        x.numbers(0, 0, 1);
        x.write(0, 1, 0);
        Check.basket(x, "?");
        Check.basket(x, "stakes 3;");
        Check.wish(x, "?");
        Check.print(x, ".");
        int[] want = {2, 3, 1, 2, 1, 3};
        for (int what = 0; what < 6; what++) is("56 status " + what, x.status(what), want[what]);
        is("56 others", x.status(6), -1);
        is("56 others", x.status(-1), -1);
        is("56 they aren't refused", x.status(0), 2);
    }

    private static void count() {
        NoKnot x = small();
        Check.wish(x, "0.0.;0.0.;");
        Check.print(x, "????;????;????;");
        Check.feed(x, "x");
        int[] want = {4, 2, 2, 1, 1, 10, 8, 20, 2, 3};
        for (int what = 0; what < 10; what++) is("57 count " + what, x.count(what), want[what]);
        is("57 others", x.count(10), -1);
        is("57 others", x.count(-1), -1);
        is("57 they aren't refused", x.status(0), 0);
    }
}
