/** Boundaries of the rods, of REACH, NEST, PLAIT and EVEN, and promises 29 to 38. */
final class RodEdges {
    private static final String ROD = Edge.ROD;
    private static final String BAND = Edge.BAND;

    /** KIND 0 begins at 0, 3 and 6 of 10 CROSSINGS, KIND 1 at 0 and 5; in BAND 1 it does by one. KIND 2 isn't taken. */
    private static final String BUNCH = "stakes 5;rod 4 thick 1 shrinks 0 price 3;rod 6 thick 1 shrinks 0 price 5;"
            + "rod 99 thick 1 shrinks 0 price 11;overlap 1;" + Edge.band(2, 2, 1, 2, 0, "0 1") + Edge.band(1, 1, 1, 1, 0, "1");

    private RodEdges() {
    }

    static void all() {
        rods();
        waste();
        cost();
        cheaper();
        joins();
        hide();
        hideFarthest();
        reachSets();
        reachBounds();
        reachRefused();
        nest();
        nestRefused();
        plaitMoves();
        plaitOrder();
        plaitLoose();
        plaitRefused();
        even();
        evenRefused();
    }

    private static void says(int promise, String sentence) {
        Edge.says(promise, sentence);
    }

    private static void is(String what, long got, long want) {
        Edge.is(what, got, want);
    }

    private static NoKnot one(int length, int overlap, int crossings, int price) {
        return Edge.told("stakes " + crossings + ";rod " + length + " thick 1 shrinks 0 price " + price + ";overlap " + overlap + ";" + BAND);
    }

    // ---- promises 29 to 34

    private static void rods() {
        says(29, "How many rods of a KIND THE BASKET takes. -2.");
        NoKnot x = Edge.told(BUNCH);
        Edge.each("KINDS", new long[] {x.rods(-1), x.rods(0), x.rods(1), x.rods(2), x.rods(3)}, -2, 3, 3, 0, -2);
        Edge.all("none such", -2, x.rods(Edge.FAR), x.rods(Edge.DEEP), new NoKnot().rods(0), Edge.told("stakes 3;").rods(0));
        is("counted", x.status(0), 4);
        Edge.each("one less, just so, one more", new long[] {one(9, 2, 10, 0).rods(0), one(10, 2, 10, 0).rods(0), one(11, 2, 10, 0).rods(0)}, 2, 1, 1);
        x = Edge.told(ROD.repeat(6) + "stakes 3;" + BAND.replace("with 0", "with 5"));
        Edge.each("six KINDS", new long[] {x.rods(4), x.rods(5), x.rods(6)}, 0, 2, -2);
        is("no BAND", Edge.told(ROD).rods(0), 0);
    }

    private static void waste() {
        says(30, "How much of them is left over: of each weaver's last rod what it doesn't reach, added. -2.");
        NoKnot x = Edge.told(BUNCH);
        Edge.each("KINDS", new long[] {x.waste(-1), x.waste(0), x.waste(1), x.waste(2), x.waste(3)}, -2, 0, 2, 0, -2);
        Edge.all("none such", -2, x.waste(Edge.FAR), x.waste(Edge.DEEP), new NoKnot().waste(0));
        is("counted", x.status(0), 4);
        Edge.each("just so and beside", new long[] {one(4, 2, 5, 0).waste(0), one(5, 2, 5, 0).waste(0), one(6, 2, 5, 0).waste(0)}, 1, 0, 1);
        Edge.each("one rod of 99", new long[] {one(99, 20, 3, 0).waste(0), one(99, 0, 32, 0).waste(0)}, 96, 67);
        is("by a STEP of 1 none", one(5, 5, 9, 0).waste(0), 0);
        is("by two weavers", Edge.told("stakes 5;rod 6 thick 1 shrinks 0 price 0;" + Edge.band(2, 1, 1, 1, 0, "0 0")).waste(0), 2);
    }

    private static void cost() {
        says(31, "What all rods cost.");
        is("nothing", new NoKnot().cost(), 0);
        is("no BAND", Edge.told("stakes 3;rod 2 thick 1 shrinks 0 price 99;").cost(), 0);
        is("three of 3 and three of 5", Edge.told(BUNCH).cost(), 24);
        Edge.each("a PRICE of 0, 1, 99", new long[] {one(4, 2, 5, 0).cost(), one(4, 2, 5, 1).cost(), one(4, 2, 5, 99).cost()}, 0, 2, 198);
        String most = "stakes 32;rod 2 thick 1 shrinks 0 price 99;overlap 2;" + Edge.band(4, 1, 1, 40, 0, "0 0 0 0").repeat(7);
        is("the most", Edge.told(most).cost(), 7L * 4 * 1279 * 99);
    }

    private static void cheaper() {
        says(32, "The KIND by which all weavers of a BAND would cost least, the first of like ones. -2.");
        NoKnot x = Edge.told(BUNCH);
        // By 10 CROSSINGS 3 of 3, 2 of 5, 1 of 11; by 5 CROSSINGS 2 of 3, 1 of 5, 1 of 11.
        Edge.each("bands", new long[] {x.cheaper(-1), x.cheaper(0), x.cheaper(1), x.cheaper(2)}, -2, 0, 1, -2);
        Edge.all("none such", -2, x.cheaper(Edge.FAR), x.cheaper(Edge.DEEP), new NoKnot().cheaper(0));
        is("counted", x.status(0), 4);
        int[] prices = {8, 9, 10};
        int[] wants = {2, 0, 0};
        for (int k = 0; k < 3; k++) is("at " + prices[k], Edge.told(BUNCH.replace("price 11", "price " + prices[k])).cheaper(0), wants[k]);
        is("all cost nothing", Edge.told("stakes 3;" + ROD.repeat(6) + BAND.replace("with 0", "with 5")).cheaper(0), 0);
        String six = "stakes 3;" + ROD.replace("price 0", "price 1").repeat(5) + ROD + BAND;
        is("the last one", Edge.told(six).cheaper(0), 5);
    }

    private static void joins() {
        says(0, "JOINS of a BAND: rods but each weaver's first one; SEEN are those that begin at a CROSSING that is OVER.");
        NoKnot x = Edge.told(BUNCH);
        // OOU: weaver 0 at 3 and 6, over; weaver 1 at 5, under.
        Edge.each("all and seen", new long[] {x.joins(0, false), x.joins(0, true), x.joins(1, false), x.joins(1, true)}, 3, 2, 0, 0);
        says(33, "JOINS of a BAND: all, or those SEEN. -2.");
        Edge.all("none such", -2, x.joins(-1, true), x.joins(2, true), x.joins(-1, false), x.joins(2, false), x.joins(Edge.FAR, true),
                x.joins(Edge.DEEP, false), new NoKnot().joins(0, true));
        is("counted", x.status(0), 6);
        Edge.each("none by one rod", new long[] {one(5, 2, 5, 0).joins(0, false), one(4, 2, 5, 0).joins(0, false)}, 0, 1);
        // A STEP of 1 by 1 and 1: at 1 under, at 2 over ..
        Edge.each("each CROSSING", new long[] {one(2, 20, 6, 0).joins(0, false), one(2, 20, 6, 0).joins(0, true)}, 4, 2);
        is("the slip tells whether it is seen", Edge.told(BUNCH + "slip 0 1 5;").joins(0, true), 3);
    }

    private static void hide() {
        says(34, "The overlap (0 to 20) by which fewest JOINS of a BAND would be SEEN, the least of like ones (what 0), how many (1).");
        // LENGTH 3 begins at 3 by 0, under; LENGTH 4 at 4 by 0, over, at 3 by 1; 1 and 1 by 5 stakes.
        Edge.each("0", new long[] {one(3, 9, 5, 0).hide(0, 0), one(3, 9, 5, 0).hide(0, 1)}, 0, 0);
        Edge.each("1", new long[] {one(4, 9, 5, 0).hide(0, 0), one(4, 9, 5, 0).hide(0, 1)}, 1, 0);
        Edge.each("no JOIN", new long[] {one(5, 9, 5, 0).hide(0, 0), one(5, 9, 5, 0).hide(0, 1)}, 0, 0);
        // LENGTH 2 for 6: at 2 and 4 by 0; at 1, 2, 3, 4 by 1 and more: two are seen by all.
        Edge.each("like ones", new long[] {one(2, 9, 6, 0).hide(0, 0), one(2, 9, 6, 0).hide(0, 1)}, 0, 2);
        says(34, "-2: the BAND, what.");
        NoKnot x = Edge.told(BUNCH);
        Edge.all("none such", -2, x.hide(-1, 0), x.hide(2, 0), x.hide(0, -1), x.hide(0, 2), x.hide(Edge.FAR, 0), x.hide(0, Edge.FAR), x.hide(0, Edge.DEEP));
        is("counted", x.status(0), 7);
        Edge.each("overlap stays", new long[] {x.hide(1, 1), x.count(4)}, 0, 1);
    }

    private static void hideFarthest() {
        says(34, "The overlap (0 to 20)");
        // By its slips under at 4 alone of 25: LENGTH 24 begins there by 20.
        String slips = "slip 0 0 9;slip 0 0 13;slip 0 0 17;slip 0 0 21;";
        NoKnot x = Edge.told("stakes 5;rod 24 thick 1 shrinks 0 price 0;" + Edge.band(1, 4, 1, 5, 0, "0") + slips);
        Edge.each("20", new long[] {x.hide(0, 0), x.hide(0, 1)}, 20, 0);
        // LENGTH 25 for 26 would by 21.
        x = Edge.told("stakes 13;rod 25 thick 1 shrinks 0 price 0;" + Edge.band(1, 4, 1, 2, 0, "0") + slips + "slip 0 0 25;");
        Edge.each("21 can't be", new long[] {x.hide(0, 0), x.hide(0, 1)}, 0, 1);
        x = Edge.told("stakes 24;rod 23 thick 1 shrinks 0 price 0;" + Edge.band(1, 4, 1, 1, 0, "0") + slips);
        Edge.each("19", new long[] {x.hide(0, 0), x.hide(0, 1)}, 19, 0);
    }

    // ---- promise 35

    private static long[] reached(NoKnot x, int t) {
        return new long[] {x.reach(0, t, 0), x.reach(0, t, 1), x.reach(0, t, 2)};
    }

    private static NoKnot lengths(int overlap, long... values) {
        NoKnot x = Edge.told("overlap " + overlap + ";");
        Check.row(x, 0, 3, values);
        return x;
    }

    private static void reachSets() {
        says(0, "REACH: rods of LENGTHS (1 to 9 of them, each 1 to 999) to cover t CROSSINGS: of sets by which all LENGTHS less"
                + " (one fewer than they are) times overlap are t or more those of fewest rods, of these those with the least left over,"
                + " of these the least bits.");
        // Two of them cover 13, 15 and 10, all three 18.
        NoKnot x = Edge.row(10, 5, 7);
        int[][] wants = {{1, 1, 4, 2}, {5, 1, 0, 2}, {6, 1, 1, 4}, {7, 1, 0, 4}, {8, 1, 2, 1}, {10, 1, 0, 1}, {11, 2, 2, 3}, {13, 2, 0, 3},
            {14, 2, 1, 5}, {15, 2, 0, 5}, {16, 3, 2, 7}, {18, 3, 0, 7}, {19, -1, -1, -1}};
        for (int[] w : wants) Edge.each("t " + w[0], reached(x, w[0]), w[1], w[2], w[3]);
        Edge.each("fewest rods ahead of least left over", reached(Edge.row(6, 6, 20), 10), 1, 10, 4);
        Edge.each("least left over ahead of least bits", reached(Edge.row(9, 8), 8), 1, 0, 2);
        Edge.each("least bits of one", reached(Edge.row(7, 7), 7), 1, 0, 1);
        Edge.each("least bits of two", reached(Edge.row(5, 5, 5), 8), 2, 0, 3);
        Edge.each("two that aren't the first", reached(Edge.row(3, 7, 7), 12), 2, 0, 6);
        Edge.each("overlap 0", reached(lengths(0, 5, 5), 10), 2, 0, 3);
        Edge.each("overlap 1", reached(lengths(1, 5, 5), 10), -1, -1, -1);
        Edge.each("overlap 1, 9", reached(lengths(1, 5, 5), 9), 2, 0, 3);
    }

    private static void reachBounds() {
        says(35, "REACH by a ROW OF NUMBERS, t 1 to 9999, what 0: how many rods, 1: what is left over, 2: which (bits).");
        NoKnot nine = lengths(0, 999, 999, 999, 999, 999, 999, 999, 999, 999);
        Edge.each("all nine", reached(nine, 8991), 9, 0, 511);
        Edge.each("one more", reached(nine, 8992), -1, -1, -1);
        Edge.each("the greatest t", reached(nine, 9999), -1, -1, -1);
        Edge.each("the least t", reached(nine, 1), 1, 998, 1);
        Edge.each("the last of nine", reached(lengths(0, 1, 1, 1, 1, 1, 1, 1, 1, 2), 2), 1, 0, 256);
        Edge.each("the greatest overlap", reached(lengths(20, 999, 999, 999, 999, 999, 999, 999, 999, 999), 8831), 9, 0, 511);
        Edge.each("one more", reached(lengths(20, 999, 999, 999, 999, 999, 999, 999, 999, 999), 8832), -1, -1, -1);
        says(35, "NONE: all together don't;");
        Edge.each("one does", reached(Edge.row(5), 5), 1, 0, 1);
        Edge.each("one doesn't", reached(Edge.row(5), 6), -1, -1, -1);
        Edge.each("two do", reached(Edge.row(5, 6), 9), 2, 0, 3);
        Edge.each("two don't", reached(Edge.row(5, 6), 10), -1, -1, -1);
        NoKnot x = Edge.row(5);
        is("NONE", x.reach(0, 6, 0), -1);
        is("isn't counted", x.status(0), 0);
        // No rod is no set, however great the overlap; a set that reaches counts, though shorter rods only take from it.
        Edge.each("no set", reached(lengths(20, 1), 2), -1, -1, -1);
        Edge.each("a set reaches", reached(lengths(20, 50, 1, 1), 50), 1, 0, 1);
    }

    private static void reachRefused() {
        says(35, "-2: the ROW, what; -6; -3: not 1 to 9 of them, one isn't 1 to 999, t.");
        NoKnot x = Edge.row(5, 9);
        Edge.all("none such", -2, x.reach(-1, 1, 0), x.reach(4, 1, 0), x.reach(0, 1, -1), x.reach(0, 1, 3), x.reach(1, 0, 3), x.reach(4, 0, 0),
                x.reach(Edge.FAR, 1, 0), x.reach(0, 1, Edge.FAR));
        Edge.all("MISSING", -6, x.reach(1, 1, 0), x.reach(3, 1, 0), x.reach(2, 0, 0), x.reach(1, 10000, 2));
        Edge.all("t", -3, x.reach(0, 0, 0), x.reach(0, 10000, 0), x.reach(0, -1, 0), x.reach(0, Edge.FAR, 0), x.reach(0, Edge.DEEP, 0));
        Edge.each("counted", new long[] {x.status(0), x.status(3), x.status(1)}, 8, 4, 5);
        Edge.each("the least and the greatest LENGTH", new long[] {Edge.row(1).reach(0, 1, 0), Edge.row(999).reach(0, 999, 0)}, 1, 1);
        Edge.all("a LENGTH", -3, Edge.row(0).reach(0, 1, 0), Edge.row(1000).reach(0, 1, 0), Edge.row(5, -1).reach(0, 1, 0),
                Edge.row(5, 5, 0).reach(0, 1, 0), Edge.row(1L << 32 | 5).reach(0, 1, 0), Edge.row(Long.MIN_VALUE + 5).reach(0, 1, 0));
        Edge.each("so many", new long[] {Edge.row().reach(0, 1, 0), Edge.row(1).reach(0, 1, 0), Edge.row(1, 1, 1, 1, 1, 1, 1, 1, 1).reach(0, 1, 0),
            Edge.row(1, 1, 1, 1, 1, 1, 1, 1, 1, 1).reach(0, 1, 0)}, -3, 1, 1, -3);
    }

    // ---- promise 36

    private static void nest() {
        says(0, "NEST: the most of so many WIDTHS (each 1 to 9999) of which each, put by size, is at least PLAY more than the next less one.");
        NoKnot x = Edge.row(9, 1, 5);
        int[][] wants = {{0, 3}, {1, 3}, {4, 3}, {5, 2}, {8, 2}, {9, 1}, {999, 1}};
        for (int[] w : wants) is("PLAY " + w[0], x.nest(0, w[0]), w[1]);
        Edge.each("like ones", new long[] {Edge.row(3, 3, 3).nest(0, 0), Edge.row(3, 3, 3).nest(0, 1)}, 3, 1);
        Edge.each("the greatest PLAY", new long[] {Edge.row(1000, 1).nest(0, 999), Edge.row(999, 1).nest(0, 999)}, 2, 1);
        Edge.each("from the next less one that is in it", new long[] {Edge.row(1, 3, 4, 6).nest(0, 2), Edge.row(1, 3, 4, 6).nest(0, 3)}, 3, 2);
        long[] forty = new long[40];
        for (int k = 0; k < 40; k++) forty[k] = 40 - k;
        Edge.each("forty", new long[] {Edge.row(forty).nest(0, 1), Edge.row(forty).nest(0, 2), Edge.row(forty).nest(0, 39), Edge.row(forty).nest(0, 40)},
                40, 20, 2, 1);
    }

    private static void nestRefused() {
        says(36, "NEST by a ROW OF NUMBERS, PLAY 0 to 999 (0 of 0).");
        Edge.each("none", new long[] {Edge.row().nest(0, 0), Edge.row().nest(0, 999), Edge.row().nest(0, 1000)}, 0, 0, -3);
        is("one", Edge.row(7).nest(0, 999), 1);
        says(36, "-2: the ROW; -6; -3: one isn't 1 to 9999, PLAY.");
        NoKnot x = Edge.row(5, 9);
        Edge.each("rows", new long[] {x.nest(-1, 0), x.nest(0, 0), x.nest(3, 0), x.nest(4, 0), x.nest(4, -1), x.nest(3, -1)}, -2, 2, -6, -2, -2, -6);
        Edge.all("PLAY", -3, x.nest(0, -1), x.nest(0, 1000), x.nest(0, Edge.FAR), x.nest(0, Edge.DEEP));
        Edge.each("counted", new long[] {x.status(0), x.status(3), x.status(1)}, 3, 2, 4);
        Edge.each("WIDTHS", new long[] {Edge.row(0).nest(0, 0), Edge.row(1).nest(0, 0), Edge.row(9999).nest(0, 0), Edge.row(10000).nest(0, 0),
            Edge.row(5, -1).nest(0, 0), Edge.row(5, 1L << 32 | 5).nest(0, 0), Edge.row(1, 9999).nest(0, 999)}, -3, 1, 1, -3, -3, -3, 2);
    }

    // ---- promise 37

    private static long[] places(NoKnot x, int m) {
        long[] out = new long[9];
        for (int k = 0; k < 9; k++) out[k] = x.plait(0, m, 10 + k);
        return out;
    }

    private static void plaitMoves() {
        says(0, "A PLAIT of m strands (2 to 9), numbered by their places at first, is a row of numbers: k (0 to m less 2): what lies at place k"
                + " goes over what lies at place k and 1, and they change places; -1 less k: the other one goes over.");
        Edge.each("two strands", places(Edge.row(0), 2), 1, 0, -1, -1, -1, -1, -1, -1, -1);
        Edge.each("the other one over", places(Edge.row(-1), 2), 1, 0, -1, -1, -1, -1, -1, -1, -1);
        Edge.each("nine strands, the last two", places(Edge.row(7), 9), 0, 1, 2, 3, 4, 5, 6, 8, 7);
        Edge.each("nine strands, the last two", places(Edge.row(-8), 9), 0, 1, 2, 3, 4, 5, 6, 8, 7);
        Edge.each("the first one to the end", places(Edge.row(0, -2, 2, -4, 4, -6, 6, -8), 9), 1, 2, 3, 4, 5, 6, 7, 8, 0);
        Edge.each("what lies there by then", places(Edge.row(0, 0, 1), 3), 0, 2, 1, -1, -1, -1, -1, -1, -1);
        for (int m = 2; m <= 9; m++) {
            Edge.each("bounds of " + m, new long[] {Edge.row(m - 2).plait(0, m, 0), Edge.row(m - 1).plait(0, m, 0), Edge.row(1 - m).plait(0, m, 0),
                Edge.row(-m).plait(0, m, 0)}, 2, -3, 2, -3);
        }
    }

    private static void plaitOrder() {
        says(0, "ORDER: how often it must be made till all strands lie at their first places.");
        Edge.each("none, and there and back", new long[] {Edge.row().plait(0, 9, 0), Edge.row(3, 3).plait(0, 9, 0), Edge.row(3, -4).plait(0, 9, 0)}, 1, 1, 1);
        Edge.each("two, three", new long[] {Edge.row(0).plait(0, 2, 0), Edge.row(0, 1).plait(0, 3, 0), Edge.row(0, 1, 0).plait(0, 3, 0)}, 2, 3, 2);
        is("nine", Edge.row(0, 1, 2, 3, 4, 5, 6, 7).plait(0, 9, 0), 9);
        is("4 and 5", Edge.row(0, 1, 2, 4, 5, 6, 7).plait(0, 9, 0), 20);
        is("2, 3 and 4", Edge.row(0, 2, 3, 5, 6, 7).plait(0, 9, 0), 12);
        is("3 and 6", Edge.row(0, 1, 3, 4, 5, 6, 7).plait(0, 9, 0), 6);
        is("2 and 7", Edge.row(0, 2, 3, 4, 5, 6, 7).plait(0, 9, 0), 14);
        says(37, "Of a PLAIT in a ROW OF NUMBERS, m strands, what 0: ORDER, 1: LOOSE ones left, 10 + k: the strand at place k behind it once.");
        NoKnot x = Edge.row(0, 1);
        Edge.each("whats", new long[] {x.plait(0, 3, 0), x.plait(0, 3, 1), x.plait(0, 3, 10), x.plait(0, 3, 11), x.plait(0, 3, 12)}, 3, 2, 1, 2, 0);
    }

    private static void plaitLoose() {
        says(0, "LOOSE ones: if a number and its opposite (k, -1 less k) stand side by side both fall out, as long as there are such:"
                + " how many are left.");
        Edge.each("pairs", new long[] {Edge.row(0, -1).plait(0, 2, 1), Edge.row(-1, 0).plait(0, 2, 1), Edge.row(0, 0).plait(0, 2, 1),
            Edge.row(-1, -1).plait(0, 2, 1), Edge.row(0).plait(0, 2, 1), Edge.row().plait(0, 2, 1)}, 0, 0, 2, 2, 1, 0);
        Edge.each("again and again", new long[] {Edge.row(0, 1, -2, -1).plait(0, 3, 1), Edge.row(0, 1, -1, -2).plait(0, 3, 1),
            Edge.row(0, 1, -2, -1, 0).plait(0, 3, 1), Edge.row(0, -1, 0).plait(0, 2, 1)}, 0, 4, 1, 1);
        is("the ends don't stand side by side", Edge.row(0, 1, -1).plait(0, 3, 1), 3);
        is("the greatest ones", Edge.row(7, -8, -8, 7).plait(0, 9, 1), 0);
        long[] all = new long[40];
        is("forty", Edge.row(all).plait(0, 2, 1), 40);
        for (int k = 20; k < 40; k++) all[k] = -1;
        is("all forty fall out", Edge.row(all).plait(0, 2, 1), 0);
        all[39] = 0;
        is("but for two", Edge.row(all).plait(0, 2, 1), 2);
    }

    private static void plaitRefused() {
        NoKnot x = Edge.row(0);
        says(37, "NONE: no such place.");
        for (int m = 2; m <= 9; m++) {
            Edge.each("of " + m, new long[] {x.plait(0, m, 10 + m - 1), m < 9 ? x.plait(0, m, 10 + m) : -1, x.plait(0, m, 18)}, m == 2 ? 0 : m - 1, -1,
                    m == 9 ? 8 : -1);
        }
        is("NONE isn't counted", x.status(0), 0);
        says(37, "-2: the ROW, what (k 0 to 8); -6; -3: m, a number that can't be;");
        Edge.all("none such", -2, x.plait(-1, 2, 0), x.plait(4, 2, 0), x.plait(0, 2, -1), x.plait(0, 2, 2), x.plait(0, 2, 9), x.plait(0, 2, 19),
                x.plait(1, 1, 2), x.plait(0, 1, 19), x.plait(Edge.FAR, 2, 0), x.plait(0, 2, Edge.FAR), x.plait(0, 2, Edge.DEEP));
        Edge.all("MISSING", -6, x.plait(1, 2, 0), x.plait(3, 1, 0), x.plait(2, 10, 18));
        Edge.all("m", -3, x.plait(0, 1, 0), x.plait(0, 10, 0), x.plait(0, 1, 18), x.plait(0, Edge.FAR, 0), x.plait(0, Edge.DEEP, 1));
        Edge.each("counted", new long[] {x.status(0), x.status(3), x.status(1)}, 11, 3, 5);
        Edge.each("m of no numbers", new long[] {Edge.row().plait(0, 1, 0), Edge.row().plait(0, 2, 0), Edge.row().plait(0, 9, 1), Edge.row().plait(0, 10, 1)},
                -3, 1, 0, -3);
        Edge.each("just there", new long[] {x.plait(0, 2, 0), x.plait(0, 9, 1), x.plait(0, 2, 10), x.plait(0, 9, 18)}, 2, 1, 1, 8);
        Edge.all("a number", -3, Edge.row(1).plait(0, 2, 0), Edge.row(-2).plait(0, 2, 1), Edge.row(0, 1).plait(0, 2, 10), Edge.row(8).plait(0, 9, 0),
                Edge.row(-9).plait(0, 9, 0), Edge.row(1L << 32).plait(0, 9, 0), Edge.row(Long.MIN_VALUE).plait(0, 9, 0), Edge.row(2).plait(0, 2, 12));
    }

    // ---- promise 38

    private static long[] evened(NoKnot x) {
        long[] out = new long[9];
        for (int what = -1; what < 8; what++) out[what + 1] = x.even(0, what);
        return out;
    }

    private static void even() {
        says(0, "EVEN: 2 m rods (2 to 8, an even number of them) put round: for each m that stand side by side, how much the sum of THICK differs"
                + " from that of the others: the greatest of these; the order by which that is least, of like ones the first (by rods' numbers).");
        Edge.each("two", evened(Edge.row(7, 3)), 4, 0, 1, -1, -1, -1, -1, -1, -1);
        Edge.each("two, the other way round", evened(Edge.row(3, 7)), 4, 0, 1, -1, -1, -1, -1, -1, -1);
        Edge.each("four", evened(Edge.row(1, 1, 9, 9)), 0, 0, 2, 1, 3, -1, -1, -1, -1);
        // The half that has the thick one is 10 to 2, wherever it lies.
        Edge.each("four, one thick", evened(Edge.row(9, 1, 1, 1)), 8, 0, 1, 2, 3, -1, -1, -1, -1);
        Edge.each("six alike", evened(Edge.row(5, 5, 5, 5, 5, 5)), 0, 0, 1, 2, 3, 4, 5, -1, -1);
        Edge.each("six, one thick", evened(Edge.row(1, 1, 1, 1, 1, 9)), 8, 0, 1, 2, 3, 4, 5, -1, -1);
        // Two thick ones three apart are never in one half.
        Edge.each("six, two thick", evened(Edge.row(9, 9, 1, 1, 1, 1)), 0, 0, 2, 3, 1, 4, 5, -1, -1);
        Edge.each("eight alike", evened(Edge.row(1, 1, 1, 1, 1, 1, 1, 1)), 0, 0, 1, 2, 3, 4, 5, 6, 7);
        Edge.each("eight, two thick", evened(Edge.row(99, 99, 1, 1, 1, 1, 1, 1)), 0, 0, 2, 3, 4, 1, 5, 6, 7);
        NoKnot x = Edge.row(1, 1, 1, 1, 1, 1, 1, 1);
        Check.row(x, 1, 0, 7, 3);
        Check.row(x, 2, 0, 1, 9, 1, 9);
        Edge.each("one behind the other", new long[] {x.even(0, -1), x.even(1, -1), x.even(1, 1), x.even(1, 2), x.even(2, -1), x.even(2, 3), x.even(0, 7)},
                0, 4, 1, -1, 0, 3, 7);
        Edge.each("eight, the last two thick", evened(Edge.row(1, 1, 1, 1, 1, 1, 99, 99)), 0, 0, 1, 2, 6, 3, 4, 5, 7);
    }

    private static void evenRefused() {
        says(38, "Of EVEN, for THICK in a ROW OF NUMBERS, what NONE: that greatest difference, k (0 to 7): the rod at place k (NONE: no such place).");
        NoKnot x = Edge.row(7, 3);
        Edge.each("whats", new long[] {x.even(0, -2), x.even(0, -1), x.even(0, 0), x.even(0, 1), x.even(0, 2), x.even(0, 7), x.even(0, 8)},
                -2, 4, 0, 1, -1, -1, -2);
        is("NONE isn't counted", x.status(0), 2);
        says(38, "-2: the ROW, another what; -6; -3: not 2, 4, 6 or 8 of them, one isn't 1 to 99.");
        Edge.all("none such", -2, x.even(-1, 0), x.even(4, 0), x.even(1, 8), x.even(4, 8), x.even(Edge.FAR, 0), x.even(0, Edge.FAR), x.even(0, Edge.DEEP));
        Edge.all("MISSING", -6, x.even(1, 0), x.even(3, -1), x.even(2, 7));
        Edge.each("counted", new long[] {x.status(0), x.status(3)}, 9, 3);
        for (int size = 0; size <= 10; size++) {
            long[] ones = new long[size];
            java.util.Arrays.fill(ones, 1);
            boolean can = size > 0 && size <= 8 && size % 2 == 0;
            Edge.each("of " + size, new long[] {Edge.row(ones).even(0, -1), Edge.row(ones).even(0, 0), Edge.row(ones).even(0, 7)}, can ? 0 : -3, can ? 0 : -3,
                    !can ? -3 : size == 8 ? 7 : -1);
        }
        Edge.each("THICK", new long[] {Edge.row(1, 0).even(0, -1), Edge.row(1, 1).even(0, -1), Edge.row(99, 1).even(0, -1), Edge.row(99, 99).even(0, -1),
            Edge.row(100, 99).even(0, -1), Edge.row(1, -1).even(0, 7), Edge.row(1, 1L << 32 | 1).even(0, 0)}, -3, 0, 98, 0, -3, -3, -3);
    }
}
