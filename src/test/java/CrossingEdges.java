/** Boundaries of the crossings: what the terms say of them, and promises 8 to 23. */
final class CrossingEdges {
    private static final String ROD = Edge.ROD;
    private static final String BAND = Edge.BAND;

    /**
     * BAND 0 by STAKES, row by row: OUO OOU OOU OOU (KINDS 0 1 0 1; its weaver 1 slips, else its last row
     * were UOO). BAND 1, to the left: OUU three times.
     */
    private static final String PAIR = "stakes 3;" + ROD + ROD + Edge.band(2, 2, 2, 2, 2, "0 1")
            + Edge.band(1, 1, 2, 3, 0, "1 left") + "slip 0 1 2;";

    /** By STAKES OUU UUO OUU UUO: weaver 1 begins at the last STAKE. */
    private static final String LEFT = "stakes 3;" + ROD + ROD + Edge.band(2, 1, 2, 2, 0, "0 1 left");

    private CrossingEdges() {
    }

    static void all() {
        roundTheStakes();
        overAndUnder();
        slipsOfWeavers();
        slipsAtEnds();
        time();
        rodsBegin();
        rodStep();
        latestRod();
        rows();
        seenSides();
        crossing();
        seen();
        overs();
        run();
        step();
        stepRounds();
        stepRefused();
        counts();
        total();
        undo();
        mend();
        seam();
        turn();
        spiral();
        repeats();
        colour();
        floats();
        longFloat();
        learner();
        learnerBelow();
        learnerTime();
    }

    private static void says(int promise, String sentence) {
        Edge.says(promise, sentence);
    }

    private static void is(String what, long got, long want) {
        Edge.is(what, got, want);
    }

    /** What crossing() answers of all CROSSINGS of a weaver, up to the first that isn't there. */
    private static long[] along(NoKnot x, int b, int j, int what, int count) {
        long[] out = new long[count];
        for (int i = 0; i < count; i++) out[i] = x.crossing(b, j, i, what);
        return out;
    }

    private static String over(NoKnot x, int b, int j, int count) {
        StringBuilder s = new StringBuilder();
        for (int i = 0; i < count; i++) s.append(x.crossing(b, j, i, 1) == 1 ? 'O' : 'U');
        return s.toString();
    }

    private static void weaves(String what, NoKnot x, int b, int j, String want) {
        String got = over(x, b, j, want.length());
        is(what + " " + got + " is " + want, got.equals(want) ? 1 : 0, 1);
    }

    // ---- terms

    private static void roundTheStakes() {
        says(0, "WEAVER j of a BAND makes ROUNDS times stakes CROSSINGS, i from 0 on: at STAKE FROM and j and i"
                + " (left: FROM less j less i), round the stakes.");
        NoKnot x = Edge.told("stakes 3;" + ROD + Edge.band(4, 1, 1, 2, 2, "0 0 0 0") + Edge.band(4, 1, 1, 2, 0, "0 0 0 0 left"));
        Edge.each("beyond the last stake", along(x, 0, 0, 0, 6), 2, 0, 1, 2, 0, 1);
        Edge.each("one further", along(x, 0, 1, 0, 6), 0, 1, 2, 0, 1, 2);
        Edge.each("all round", along(x, 0, 3, 0, 6), 2, 0, 1, 2, 0, 1);
        Edge.each("below the first stake", along(x, 1, 0, 0, 6), 0, 2, 1, 0, 2, 1);
        Edge.each("left, one further", along(x, 1, 1, 0, 6), 2, 1, 0, 2, 1, 0);
        Edge.each("left, all round", along(x, 1, 3, 0, 6), 0, 2, 1, 0, 2, 1);
        Edge.all("no more of them", -2, x.crossing(0, 0, 6, 0), x.crossing(1, 3, 6, 0), x.crossing(0, 0, -1, 0));
        x = Edge.told("stakes 32;" + ROD + Edge.band(4, 1, 1, 40, 31, "0 0 0 0") + Edge.band(4, 1, 1, 40, 0, "0 0 0 0 left"));
        Edge.each("32 stakes", new long[] {x.crossing(0, 0, 0, 0), x.crossing(0, 0, 1, 0), x.crossing(0, 3, 0, 0),
            x.crossing(0, 3, 1279, 0), x.crossing(0, 3, 1280, 0)}, 31, 0, 2, 1, -2);
        Edge.each("32 stakes, left", new long[] {x.crossing(1, 0, 0, 0), x.crossing(1, 0, 1, 0), x.crossing(1, 3, 0, 0),
            x.crossing(1, 3, 1279, 0), x.crossing(1, 3, 1280, 0)}, 0, 31, 29, 30, -2);
    }

    private static void overAndUnder() {
        says(0, "It goes OVER (before the STAKE), if i and the number of its slips with an index of i or less,"
                + " modulo BEFORE and BEHIND, is below BEFORE; else UNDER.");
        for (int before = 1; before <= 4; before++) {
            for (int behind = 1; behind <= 4; behind++) {
                String want = ("O".repeat(before) + "U".repeat(behind)).repeat(9).substring(0, 9);
                NoKnot x = Edge.told("stakes 3;" + ROD + Edge.band(1, before, behind, 3, 1, "0"));
                weaves("before " + before + " behind " + behind, x, 0, 0, want);
            }
        }
        NoKnot x = Edge.told("stakes 32;" + ROD + Edge.band(1, 4, 3, 40, 0, "0"));
        weaves("as far as it goes", x, 0, 0, "OOOOUUU".repeat(57));
        // 1279 is 182 times 7 and 5.
        Edge.each("the last ones", new long[] {x.crossing(0, 0, 1277, 1), x.crossing(0, 0, 1278, 1), x.crossing(0, 0, 1279, 1)}, 1, 0, 0);
    }

    private static void slipsOfWeavers() {
        says(0, "the number of its slips with an index of i or less,");
        NoKnot x = Edge.told(PAIR);
        weaves("the other weaver", x, 0, 0, "OOUUOO");
        weaves("from the slip's index on", x, 0, 1, "OOUOOU");
        weaves("the other band", x, 1, 0, "OUUOUUOUU");
        String two = "stakes 3;" + ROD + Edge.band(1, 2, 1, 2, 0, "0");
        weaves("none", Edge.told(two), 0, 0, "OOUOOU");
        weaves("two at one index", Edge.told(two + "slip 0 0 1;slip 0 0 1;"), 0, 0, "OOOUOO");
        weaves("two at two, the later one first", Edge.told(two + "slip 0 0 4;slip 0 0 1;"), 0, 0, "OUOOOO");
        weaves("three come to none", Edge.told(two + "slip 0 0 0;slip 0 0 0;slip 0 0 0;"), 0, 0, "OOUOOU");
        weaves("eight come to two", Edge.told(two + "slip 0 0 0;".repeat(8)), 0, 0, "UOOUOO");
    }

    private static void slipsAtEnds() {
        says(0, "slips with an index of i or less,");
        String one = "stakes 3;" + ROD + Edge.band(1, 1, 1, 2, 0, "0");
        weaves("at the first", Edge.told(one + "slip 0 0 0;"), 0, 0, "UOUOUO");
        weaves("at the second", Edge.told(one + "slip 0 0 1;"), 0, 0, "OOUOUO");
        weaves("at the last of a round", Edge.told(one + "slip 0 0 2;"), 0, 0, "OUUOUO");
        weaves("at the first of a round", Edge.told(one + "slip 0 0 3;"), 0, 0, "OUOOUO");
        weaves("at the last", Edge.told(one + "slip 0 0 5;"), 0, 0, "OUOUOO");
    }

    private static void time() {
        says(0, "In time all bands one behind the other; in a band by i, then by weavers: WHEN is the number of CROSSINGS ahead.");
        NoKnot x = Edge.told(PAIR);
        Edge.each("weaver 0", along(x, 0, 0, 5, 6), 0, 2, 4, 6, 8, 10);
        Edge.each("weaver 1", along(x, 0, 1, 5, 6), 1, 3, 5, 7, 9, 11);
        Edge.each("the next band", along(x, 1, 0, 5, 9), 12, 13, 14, 15, 16, 17, 18, 19, 20);
        x = Edge.told("stakes 32;" + ROD + Edge.band(4, 1, 1, 40, 0, "0 0 0 0").repeat(8));
        Edge.each("the first and the last", new long[] {x.crossing(0, 0, 0, 5), x.crossing(7, 3, 1279, 5), x.crossing(7, 0, 0, 5)},
                0, 40959, 35840);
    }

    private static NoKnot rodOf(int length, int overlap, int crossings) {
        return Edge.told("stakes " + crossings + ";rod " + length + " thick 1 shrinks 0 price 0;overlap " + overlap + ";" + BAND);
    }

    private static void rodsBegin() {
        says(0, "RODS of a weaver of a KIND: each new one begins STEP (LENGTH less overlap, 1 at least) CROSSINGS behind the one"
                + " ahead, as long as those that began don't reach all CROSSINGS (a rod reaches LENGTH).");
        int[][] lengths = {{9, 2}, {10, 1}, {11, 1}};
        for (int[] want : lengths) is("of LENGTH " + want[0] + " for 10", rodOf(want[0], 2, 10).rods(0), want[1]);
        int[] crossings = {4, 5, 6, 7, 8, 9, 10, 11, 12};
        int[] rods = {1, 1, 2, 2, 2, 3, 3, 3, 4};
        for (int k = 0; k < rods.length; k++) is("a STEP of 3 for " + crossings[k], rodOf(5, 2, crossings[k]).rods(0), rods[k]);
        NoKnot x = rodOf(5, 2, 8);
        Edge.each("two", along(x, 0, 0, 2, 8), 0, 0, 0, 1, 1, 1, 1, 1);
        x = rodOf(5, 2, 9);
        Edge.each("three", along(x, 0, 0, 2, 9), 0, 0, 0, 1, 1, 1, 2, 2, 2);
        is("the next weaver begins anew", Edge.told(PAIR).crossing(0, 1, 0, 2), 0);
    }

    private static void rodStep() {
        says(0, "STEP (LENGTH less overlap, 1 at least)");
        int[] overlaps = {0, 1, 2, 3, 4, 5, 6, 20};
        int[] rods = {2, 2, 3, 3, 5, 5, 5, 5};
        for (int k = 0; k < rods.length; k++) is("overlap " + overlaps[k], rodOf(5, overlaps[k], 9).rods(0), rods[k]);
        Edge.each("a STEP of 5", along(rodOf(5, 0, 6), 0, 0, 2, 6), 0, 0, 0, 0, 0, 1);
        Edge.each("a STEP of 4", along(rodOf(5, 1, 6), 0, 0, 2, 6), 0, 0, 0, 0, 1, 1);
        for (int overlap : new int[] {4, 5, 6}) Edge.each("a STEP of 1", along(rodOf(5, overlap, 6), 0, 0, 2, 6), 0, 1, 1, 1, 1, 1);
        NoKnot x = Edge.told("stakes 32;" + ROD + "overlap 20;" + Edge.band(1, 1, 1, 40, 0, "0"));
        is("the most rods", x.rods(0), 1279);
        Edge.each("the last one", new long[] {x.crossing(0, 0, 1277, 2), x.crossing(0, 0, 1278, 2), x.crossing(0, 0, 1279, 2)},
                1277, 1278, 1278);
        // 99 and 14 times 79 are 1205, 15 times 1284.
        x = Edge.told("stakes 32;rod 99 thick 1 shrinks 0 price 0;overlap 20;" + Edge.band(1, 1, 1, 40, 0, "0"));
        is("the longest rods", x.rods(0), 16);
    }

    private static void latestRod() {
        says(0, "A CROSSING is of the latest that began by then. Even ones begin with the thick end, odd ones with the tip.");
        // They begin at 0, 2 and 4.
        NoKnot x = rodOf(5, 3, 9);
        Edge.each("rods", along(x, 0, 0, 2, 9), 0, 0, 1, 1, 2, 2, 2, 2, 2);
        Edge.each("how far along", along(x, 0, 0, 3, 9), 0, 1, 0, 1, 0, 1, 2, 3, 4);
        Edge.each("thick ends", along(x, 0, 0, 4, 9), 1, 1, 0, 0, 1, 1, 1, 1, 1);
        x = rodOf(5, 4, 6);
        Edge.each("how far along, by a STEP of 1", along(x, 0, 0, 3, 6), 0, 0, 1, 2, 3, 4);
        Edge.each("tips", along(x, 0, 0, 4, 6), 1, 0, 0, 0, 0, 0);
    }

    private static void rows() {
        says(0, "ROWS of a BAND: row K r + j has of each STAKE the CROSSING of weaver j in its round r (i from r times stakes on).");
        NoKnot x = Edge.told(PAIR);
        String[] want = {"OUO", "OOU", "OOU", "OOU"};
        for (int row = 0; row < 4; row++) {
            for (int s = 0; s < 3; s++) {
                is("row " + row + " at " + s, x.seen(0, row, s, false), want[row].charAt(s) == 'O' ? row % 2 : -1);
            }
        }
        x = Edge.told(LEFT);
        String[] lefts = {"OUU", "UUO", "OUU", "UUO"};
        for (int row = 0; row < 4; row++) {
            for (int s = 0; s < 3; s++) {
                is("left, two weavers, row " + row + " at " + s, x.seen(0, row, s, false), lefts[row].charAt(s) == 'O' ? row % 2 : -1);
            }
        }
        x = Edge.told(PAIR);
        for (int row = 0; row < 3; row++) {
            Edge.each("left, row " + row, new long[] {x.seen(1, row, 0, false), x.seen(1, row, 1, false), x.seen(1, row, 2, false)},
                    1, -1, -1);
        }
    }

    private static void seenSides() {
        says(0, "SEEN outside: the weaver's KIND where it goes OVER, else NONE (the STAKE is seen); inside: where it goes UNDER.");
        NoKnot x = Edge.told(PAIR);
        Edge.each("over", new long[] {x.seen(0, 1, 0, false), x.seen(0, 1, 0, true)}, 1, -1);
        Edge.each("under", new long[] {x.seen(0, 1, 2, false), x.seen(0, 1, 2, true)}, -1, 1);
        Edge.each("KIND 0, over", new long[] {x.seen(0, 0, 0, false), x.seen(0, 0, 0, true)}, 0, -1);
        Edge.each("KIND 0, under", new long[] {x.seen(0, 0, 1, false), x.seen(0, 0, 1, true)}, -1, 0);
        is("NONE is no refusal", x.status(0), 0);
    }

    // ---- promises 8 to 16

    private static void crossing() {
        says(8, "Of a CROSSING of a BAND, weaver j, index i, what 0: the STAKE, 1: 1 OVER, 0 UNDER, 2: the weaver's rod, by number,"
                + " 3: how far along that rod (0 at its beginning), 4: 1 if that rod began with the thick end, else 0, 5: WHEN.");
        NoKnot x = Edge.told(PAIR);
        long[] first = new long[6];
        long[] last = new long[6];
        for (int what = 0; what < 6; what++) {
            first[what] = x.crossing(0, 0, 0, what);
            last[what] = x.crossing(1, 0, 8, what);
        }
        // A STEP of 1 and a LENGTH of 2: eight rods for nine CROSSINGS.
        Edge.each("the first", first, 2, 1, 0, 0, 1, 0);
        Edge.each("the last", last, 1, 0, 7, 1, 0, 20);
        says(8, "-2: no such BAND, weaver, index, what.");
        Edge.all("none such", -2, x.crossing(-1, 0, 0, 0), x.crossing(2, 0, 0, 0), x.crossing(0, -1, 0, 0), x.crossing(0, 2, 0, 0),
                x.crossing(1, 1, 0, 0), x.crossing(0, 0, -1, 0), x.crossing(0, 0, 6, 0), x.crossing(1, 0, 9, 0),
                x.crossing(0, 0, 0, -1), x.crossing(0, 0, 0, 6), x.crossing(Edge.FAR, 0, 0, 0), x.crossing(0, Edge.FAR, 0, 0),
                x.crossing(0, 0, Edge.FAR, 0), x.crossing(0, 0, 0, Edge.FAR), x.crossing(0, 0, Edge.DEEP, 0));
        is("counted", x.status(0), 15);
        Edge.each("just there", new long[] {x.crossing(0, 1, 5, 5), x.crossing(1, 0, 0, 5), x.crossing(1, 0, 8, 5)}, 11, 12, 20);
        is("no BAND", new NoKnot().crossing(0, 0, 0, 0), -2);
    }

    private static void seen() {
        says(9, "SEEN in a row of a BAND at a STAKE. -2: no such BAND, row, STAKE.");
        NoKnot x = Edge.told(PAIR);
        Edge.all("none such", -2, x.seen(-1, 0, 0, true), x.seen(2, 0, 0, true), x.seen(0, -1, 0, true), x.seen(0, 4, 0, true),
                x.seen(1, 3, 0, true), x.seen(0, 0, -1, true), x.seen(0, 0, 3, true), x.seen(0, Edge.FAR, 0, false),
                x.seen(0, 0, Edge.DEEP, false), x.seen(Edge.FAR, 0, 0, false));
        is("counted", x.status(0), 10);
        Edge.each("just there", new long[] {x.seen(0, 0, 0, false), x.seen(0, 3, 2, true), x.seen(1, 0, 0, false), x.seen(1, 2, 2, true)},
                0, 1, 1, 1);
        x = Edge.told("stakes 32;" + ROD + Edge.band(4, 1, 1, 40, 0, "0 0 0 0"));
        // Weaver 3 begins at STAKE 3: 31 is its CROSSING 28 of the round, over.
        Edge.each("the last row", new long[] {x.seen(0, 159, 31, false), x.seen(0, 160, 31, false), x.seen(0, 159, 32, false)}, 0, -2, -2);
    }

    private static void overs() {
        says(10, "How many CROSSINGS of a BAND at a STAKE are OVER. -2.");
        NoKnot x = Edge.told(PAIR);
        Edge.each("overs", new long[] {x.overs(0, 0), x.overs(0, 1), x.overs(0, 2)}, 4, 3, 1);
        Edge.each("all and none", new long[] {x.overs(1, 0), x.overs(1, 1), x.overs(1, 2)}, 3, 0, 0);
        Edge.all("none such", -2, x.overs(-1, 0), x.overs(2, 0), x.overs(0, -1), x.overs(0, 3), x.overs(Edge.FAR, 0), x.overs(0, Edge.FAR),
                x.overs(Edge.DEEP, 0), x.overs(0, Edge.DEEP));
        is("counted", x.status(0), 8);
        x = Edge.told("stakes 32;" + ROD + Edge.band(4, 4, 4, 40, 0, "0 0 0 0"));
        // Asked of the last BAND first.
        NoKnot pair = Edge.told(PAIR);
        Edge.each("the last one first", new long[] {pair.overs(1, 0), pair.overs(0, 0), pair.overs(0, 2), pair.overs(1, 2)}, 3, 4, 1, 0);
        // 32 is 4 times 8: STAKE 3 is always over by all four, 7 by none.
        Edge.each("of 160 rows", new long[] {x.overs(0, 3), x.overs(0, 7), x.overs(0, 31)}, 160, 0, 0);
        // A BASKET of one round in its place: what the rows were is no matter.
        Check.basket(x, "stakes 32;" + ROD + Edge.band(1, 4, 4, 1, 0, "0"));
        Edge.each("of one row", new long[] {x.overs(0, 3), x.overs(0, 4), x.run(0, 3)}, 1, 0, 1);
    }

    private static void run() {
        says(11, "The most rows of a BAND one upon another with the same (all OVER or all UNDER) at a STAKE. -2.");
        NoKnot x = Edge.told(PAIR);
        Edge.each("runs", new long[] {x.run(0, 0), x.run(0, 1), x.run(0, 2)}, 4, 3, 3);
        Edge.each("all", new long[] {x.run(1, 0), x.run(1, 1), x.run(1, 2)}, 3, 3, 3);
        Edge.all("none such", -2, x.run(-1, 0), x.run(2, 0), x.run(0, -1), x.run(0, 3), x.run(Edge.FAR, 0), x.run(0, Edge.DEEP));
        is("counted", x.status(0), 6);
        x = Edge.told("stakes 3;" + ROD + BAND + Edge.band(1, 1, 1, 4, 0, "0"));
        Edge.each("one row", new long[] {x.run(0, 0), x.run(0, 1), x.run(0, 2)}, 1, 1, 1);
        Edge.each("no two", new long[] {x.run(1, 0), x.run(1, 1), x.run(1, 2)}, 1, 1, 1);
        String five = "stakes 4;" + ROD + Edge.band(1, 1, 1, 5, 0, "0");
        Edge.all("all five", 5, Edge.told(five).run(0, 0), Edge.told(five).run(0, 3));
        is("four at the end", Edge.told(five + "slip 0 0 4;").run(0, 0), 4);
        is("four at the beginning", Edge.told(five + "slip 0 0 16;").run(0, 0), 4);
        is("three", Edge.told(five + "slip 0 0 8;").run(0, 3), 3);
        is("three in the middle", Edge.told(five + "slip 0 0 4;slip 0 0 16;").run(0, 1), 3);
    }

    private static void step() {
        says(12, "How far n stakes (3 to 999) throw BEFORE, BEHIND out of step each round: n modulo both (what 0);");
        NoKnot x = new NoKnot();
        Edge.each("1 and 1", new long[] {x.step(3, 1, 1, 0), x.step(4, 1, 1, 0), x.step(998, 1, 1, 0), x.step(999, 1, 1, 0)}, 1, 0, 0, 1);
        Edge.each("9 and 9", new long[] {x.step(3, 9, 9, 0), x.step(17, 9, 9, 0), x.step(18, 9, 9, 0), x.step(19, 9, 9, 0), x.step(999, 9, 9, 0)},
                3, 17, 0, 1, 9);
        Edge.each("one is 1", new long[] {x.step(10, 1, 9, 0), x.step(9, 9, 1, 0), x.step(11, 9, 1, 0)}, 0, 9, 1);
    }

    private static void stepRounds() {
        NoKnot x = new NoKnot();
        says(12, "behind how many rounds it lies as at first (1);");
        Edge.each("9 and 9", new long[] {x.step(17, 9, 9, 1), x.step(18, 9, 9, 1), x.step(19, 9, 9, 1), x.step(9, 9, 9, 1), x.step(6, 9, 9, 1)},
                18, 1, 18, 2, 3);
        Edge.each("1 and 1", new long[] {x.step(3, 1, 1, 1), x.step(4, 1, 1, 1), x.step(999, 1, 1, 1)}, 2, 1, 2);
        says(12, "1 if (for all i) i and n is OVER just where i is UNDER, else 0 (2).");
        Edge.each("9 and 9", new long[] {x.step(8, 9, 9, 2), x.step(9, 9, 9, 2), x.step(10, 9, 9, 2), x.step(18, 9, 9, 2), x.step(27, 9, 9, 2)},
                0, 1, 0, 0, 1);
        Edge.each("1 and 1", new long[] {x.step(3, 1, 1, 2), x.step(4, 1, 1, 2), x.step(999, 1, 1, 2)}, 1, 0, 1);
        for (int n = 3; n < 21; n++) Edge.all("not like ones", 0, x.step(n, 2, 1, 2), x.step(n, 3, 4, 2), x.step(n, 1, 9, 2), x.step(n, 9, 8, 2));
    }

    private static void stepRefused() {
        says(12, "-3: n, before, behind (1 to 9), what.");
        NoKnot x = new NoKnot();
        Edge.all("can't be", -3, x.step(2, 1, 1, 0), x.step(1000, 1, 1, 0), x.step(3, 0, 1, 0), x.step(3, 10, 1, 0), x.step(3, 1, 0, 0),
                x.step(3, 1, 10, 0), x.step(3, 1, 1, -1), x.step(3, 1, 1, 3), x.step(Edge.FAR, 1, 1, 0), x.step(Edge.DEEP, 1, 1, 0),
                x.step(3, Edge.FAR, 1, 0), x.step(3, 1, Edge.FAR, 0), x.step(0, 0, 0, 0), x.step(3, 1, -1, 0), x.step(3, 1, 1, Edge.FAR));
        is("counted", x.status(1), 15);
        Edge.each("just can be", new long[] {x.step(3, 1, 1, 0), x.step(999, 9, 9, 2), x.step(3, 9, 1, 1), x.step(3, 1, 9, 1)}, 1, 1, 10, 10);
    }

    private static void counts() {
        says(13, "How many numbers of stakes from a to b (3 to 999) throw it out by so much each round.");
        NoKnot x = new NoKnot();
        Edge.each("all numbers", new long[] {x.counts(3, 999, 1, 1, 0), x.counts(3, 999, 1, 1, 1), x.counts(3, 999, 1, 1, 2)}, 498, 499, 0);
        Edge.each("the first", new long[] {x.counts(3, 3, 1, 1, 1), x.counts(3, 3, 1, 1, 0), x.counts(3, 4, 1, 1, 0)}, 1, 0, 1);
        Edge.each("the last", new long[] {x.counts(999, 999, 9, 9, 9), x.counts(998, 999, 9, 9, 8), x.counts(998, 998, 9, 9, 9)}, 1, 1, 0);
        Edge.each("both ends count", new long[] {x.counts(18, 36, 9, 9, 0), x.counts(19, 35, 9, 9, 0), x.counts(18, 35, 9, 9, 0),
            x.counts(19, 36, 9, 9, 0)}, 2, 0, 1, 1);
        Edge.each("the greatest one it can be", new long[] {x.counts(35, 35, 9, 9, 17), x.counts(35, 36, 9, 9, 18),
            x.counts(3, 999, 9, 9, Edge.FAR)}, 1, 0, 0);
        says(13, "-3: a, b (a above b), before, behind; by is below 0.");
        x = new NoKnot();
        Edge.all("can't be", -3, x.counts(2, 9, 1, 1, 0), x.counts(2, 2, 1, 1, 0), x.counts(3, 1000, 1, 1, 0), x.counts(1000, 1000, 1, 1, 0),
                x.counts(4, 3, 1, 1, 0), x.counts(999, 998, 1, 1, 0), x.counts(3, 9, 0, 1, 0), x.counts(3, 9, 10, 1, 0),
                x.counts(3, 9, 1, 0, 0), x.counts(3, 9, 1, 10, 0), x.counts(3, 9, 1, 1, -1), x.counts(3, 9, 1, 1, Edge.DEEP),
                x.counts(Edge.DEEP, Edge.FAR, 1, 1, 0), x.counts(3, Edge.FAR, 1, 1, 0));
        is("counted", x.status(1), 14);
        Edge.each("just can be", new long[] {x.counts(3, 3, 9, 9, 3), x.counts(999, 999, 1, 9, 9), x.counts(3, 12, 9, 1, 0)}, 1, 1, 1);
    }

    private static void total() {
        says(14, "All CROSSINGS.");
        is("an empty one", new NoKnot().total(), 0);
        is("no BAND", Edge.told("stakes 3;" + ROD).total(), 0);
        is("the fewest", Edge.told("stakes 3;" + ROD + BAND).total(), 3);
        is("some", Edge.told(PAIR).total(), 21);
        is("the most", Edge.told("stakes 32;" + ROD + Edge.band(4, 1, 1, 40, 0, "0 0 0 0").repeat(8)).total(), 40960);
    }

    private static void undo() {
        says(15, "How many CROSSINGS must be undone from the end so that one is undone, it with them (end true), from the beginning (false).");
        NoKnot x = Edge.told(PAIR);
        Edge.each("the first", new long[] {x.undo(0, 0, 0, true), x.undo(0, 0, 0, false)}, 21, 1);
        Edge.each("the second", new long[] {x.undo(0, 1, 0, true), x.undo(0, 1, 0, false)}, 20, 2);
        Edge.each("the last of a band", new long[] {x.undo(0, 1, 5, true), x.undo(0, 1, 5, false)}, 10, 12);
        Edge.each("the first of a band", new long[] {x.undo(1, 0, 0, true), x.undo(1, 0, 0, false)}, 9, 13);
        Edge.each("the last", new long[] {x.undo(1, 0, 8, true), x.undo(1, 0, 8, false)}, 1, 21);
        says(15, "-2: no such one.");
        Edge.all("none such", -2, x.undo(-1, 0, 0, true), x.undo(2, 0, 0, true), x.undo(0, -1, 0, true), x.undo(0, 2, 0, false),
                x.undo(1, 1, 0, false), x.undo(0, 0, -1, false), x.undo(0, 0, 6, true), x.undo(1, 0, 9, false), x.undo(0, 0, Edge.FAR, true));
        is("counted", x.status(0), 9);
        is("no BAND", new NoKnot().undo(0, 0, 0, true), -2);
    }

    private static void mend() {
        says(16, "The fewest that must be undone from the end so that a STAKE is free from a round of a BAND on"
                + " (in this BAND and those behind it).");
        NoKnot x = Edge.told(PAIR);
        // BAND 0 comes to STAKES 2 0 1 2 0 1 by its weaver 0, to 0 1 2 0 1 2 by weaver 1; BAND 1 to 0 2 1.
        Edge.each("round 0", new long[] {x.mend(0, 0, 0), x.mend(0, 0, 1), x.mend(0, 0, 2)}, 20, 18, 21);
        Edge.each("round 1", new long[] {x.mend(0, 1, 0), x.mend(0, 1, 1), x.mend(0, 1, 2)}, 14, 12, 15);
        Edge.each("left, round 0", new long[] {x.mend(1, 0, 0), x.mend(1, 0, 1), x.mend(1, 0, 2)}, 9, 7, 8);
        Edge.each("the last round", new long[] {x.mend(1, 2, 0), x.mend(1, 2, 1), x.mend(1, 2, 2)}, 3, 1, 2);
        NoKnot left = Edge.told(LEFT);
        // To STAKES 0 2 1 by weaver 0, to 2 1 0 by weaver 1.
        Edge.each("left, two weavers", new long[] {left.mend(0, 0, 0), left.mend(0, 0, 1), left.mend(0, 0, 2), left.mend(0, 1, 0), left.mend(0, 1, 1),
            left.mend(0, 1, 2)}, 12, 9, 11, 6, 3, 5);
        says(16, "-2: no such BAND, round, STAKE.");
        Edge.all("none such", -2, x.mend(-1, 0, 0), x.mend(2, 0, 0), x.mend(0, -1, 0), x.mend(0, 2, 0), x.mend(1, 3, 0), x.mend(0, 0, -1),
                x.mend(0, 0, 3), x.mend(0, Edge.FAR, 0), x.mend(0, 0, Edge.FAR), x.mend(Edge.DEEP, 0, 0));
        is("counted", x.status(0), 10);
        x = Edge.told("stakes 32;" + ROD + Edge.band(4, 1, 1, 40, 0, "0 0 0 0"));
        // STAKE 31 is come to by weaver 3 at its CROSSING 28 of the round.
        Edge.each("many", new long[] {x.mend(0, 0, 0), x.mend(0, 39, 0), x.mend(0, 39, 31), x.mend(0, 40, 0)}, 5120, 128, 13, -2);
    }

    // ---- promises 17 to 20

    private static void seam() {
        says(0, "SEAM of a BAND and the next one: at how many STAKES the last row of it and the first row of that one are alike"
                + " (both OVER, or both UNDER).");
        is("the last row of more", Edge.told(PAIR).seam(0), 2);
        String[] from = {"0", "1", "2", "3"};
        for (int f = 0; f < 4; f++) {
            NoKnot x = Edge.told("stakes 4;" + ROD + BAND + BAND.replace("from 0", "from " + from[f]));
            is("none or all, from " + f, x.seam(0), f % 2 == 0 ? 4 : 0);
        }
        // OUO UOU, and the next one the same: its first row and the last one of this are alike nowhere.
        String rounds = Edge.band(1, 1, 1, 2, 0, "0");
        is("neither the first row of it nor the last one of that", Edge.told("stakes 3;" + ROD + rounds + rounds).seam(0), 0);
        is("one round more", Edge.told("stakes 3;" + ROD + rounds.replace("rounds 2", "rounds 3") + rounds).seam(0), 3);
        is("32 stakes", Edge.told("stakes 32;" + ROD + BAND + BAND).seam(0), 32);
        // OU .. O by 31 stakes, and one further: alike at STAKE 0 alone.
        Edge.each("31 stakes", new long[] {Edge.told("stakes 31;" + ROD + BAND + BAND).seam(0),
            Edge.told("stakes 31;" + ROD + BAND + BAND.replace("from 0", "from 1")).seam(0)}, 31, 1);
        // The last row of LEFT is UUO.
        Edge.each("left", new long[] {Edge.told(LEFT + Edge.band(1, 1, 2, 1, 0, "0")).seam(0), Edge.told(LEFT + Edge.band(1, 1, 2, 1, 2, "0")).seam(0),
            Edge.told(LEFT + Edge.band(1, 1, 2, 1, 2, "0 left")).seam(0)}, 1, 3, 3);
        says(17, "SEAM of a BAND. NONE: it is the last; -2.");
        NoKnot x = Edge.told(PAIR);
        Edge.each("bands", new long[] {x.seam(-1), x.seam(0), x.seam(1), x.seam(2)}, -2, 2, -1, -2);
        Edge.all("none such", -2, x.seam(Edge.FAR), x.seam(Edge.DEEP), new NoKnot().seam(0), new NoKnot().seam(-1));
        is("NONE isn't counted", x.status(0), 4);
        x = Edge.told("stakes 3;" + ROD + BAND.repeat(8));
        Edge.each("eight", new long[] {x.seam(6), x.seam(7), x.seam(8)}, 3, -1, -2);
        is("the only one", Edge.told("stakes 3;" + ROD + BAND).seam(0), -1);
    }

    private static void turn() {
        says(0, "TURN: the FROM of the next one by which that is least, of like ones the least.");
        // OOU, and O at one STAKE: alike at 2 from 0 and from 1, nowhere from 2.
        for (int f = 0; f < 3; f++) {
            is("stakes less 1, whatever was told", Edge.told(PAIR.replace("from 0", "from " + f)).turn(0), 2);
            is("to the right", Edge.told(PAIR.replace("from 0", "from " + f).replace(" left", "")).turn(0), 2);
        }
        is("from 1 and from 3", Edge.told("stakes 4;" + ROD + BAND + BAND).turn(0), 1);
        is("from all", Edge.told("stakes 3;" + ROD + BAND + BAND.replace("before 1", "before 4")).turn(0), 0);
        is("31 stakes, from 1 and from 30", Edge.told("stakes 31;" + ROD + BAND + BAND).turn(0), 1);
        is("behind a left one", Edge.told(LEFT.replace("from 0", "from 1") + Edge.band(1, 1, 2, 1, 0, "0")).turn(0), 1);
        NoKnot moved = Edge.told("stakes 4;" + ROD + BAND.replace("from 0", "from 1") + BAND + "slip 1 0 0;");
        // UOUO, and by its slip UOUO from 0, too.
        is("with slips", moved.turn(0), 1);
        says(18, "TURN. NONE; -2.");
        NoKnot x = Edge.told(PAIR);
        Edge.each("bands", new long[] {x.turn(-1), x.turn(0), x.turn(1), x.turn(2)}, -2, 2, -1, -2);
        Edge.all("none such", -2, x.turn(Edge.FAR), x.turn(Edge.DEEP), new NoKnot().turn(0));
        is("NONE isn't counted", x.status(0), 4);
        Edge.each("it tells alone", new long[] {x.band(1, 4), x.seam(0)}, 0, 2);
    }

    private static void spiral() {
        says(0, "SPIRAL of a weaver behind a round r: by how many STAKES (0 to stakes less 1, the least) all that it does in that round"
                + " must be turned to be what it does in round r and 1: at each STAKE s in round r and 1 just what it does at STAKE s"
                + " less that (round the stakes) in round r.");
        NoKnot x = Edge.told(PAIR);
        Edge.each("OUO to OOU, OOU to OOU", new long[] {x.spiral(0, 0, 0), x.spiral(0, 1, 0)}, 1, 0);
        // OOUO, and then OUOO; to the left from 0 OOUO is O at 0, 3, 1.
        x = Edge.told("stakes 4;" + ROD + Edge.band(1, 2, 1, 2, 0, "0") + Edge.band(1, 2, 1, 2, 0, "0 left"));
        Edge.each("stakes less 1", new long[] {x.spiral(0, 0, 0), x.spiral(1, 0, 0)}, 3, 1);
        x = Edge.told("stakes 4;" + ROD + Edge.band(1, 1, 1, 3, 0, "0") + "slip 0 0 8;");
        Edge.each("0 ahead of 2, 1 ahead of 3", new long[] {x.spiral(0, 0, 0), x.spiral(0, 0, 1)}, 0, 1);
        // OOU .. O by 31 stakes: all one less each round.
        x = Edge.told("stakes 31;" + ROD + Edge.band(2, 2, 1, 2, 0, "0 0") + Edge.band(2, 2, 1, 2, 0, "0 0 left"));
        Edge.each("31 stakes", new long[] {x.spiral(0, 0, 0), x.spiral(0, 1, 0), x.spiral(1, 0, 0), x.spiral(1, 1, 0)}, 30, 30, 1, 1);
        says(19, "SPIRAL of a BAND's weaver j behind round r. NONE: by none; -2: no such BAND, weaver, round (ROUNDS less 2 at most).");
        x = Edge.told("stakes 3;" + ROD + Edge.band(1, 1, 1, 2, 0, "0") + BAND + Edge.band(4, 1, 1, 40, 0, "0 0 0 0"));
        is("OUO to UOU", x.spiral(0, 0, 0), -1);
        is("NONE isn't counted", x.status(0), 0);
        Edge.all("rounds", -2, x.spiral(0, 0, -1), x.spiral(0, 0, 1), x.spiral(1, 0, 0), x.spiral(1, 0, -1), x.spiral(2, 0, 39), x.spiral(0, 0, Edge.FAR));
        Edge.all("none such", -2, x.spiral(-1, 0, 0), x.spiral(3, 0, 0), x.spiral(0, -1, 0), x.spiral(0, 1, 0), x.spiral(2, 4, 0), x.spiral(Edge.FAR, 0, 0));
        is("counted", x.status(0), 12);
        Edge.all("just there", -1, x.spiral(2, 3, 38), x.spiral(2, 0, 0), x.spiral(2, 3, 0));
    }

    private static void repeats() {
        says(0, "REPEATS: the least number of rows, K or a number of times K, behind which each row of a BAND (that has one so many"
                + " behind it) does the same at each STAKE; all its rows, if there is none less.");
        NoKnot x = Edge.told(PAIR);
        Edge.each("all, and one", new long[] {x.repeats(0), x.repeats(1)}, 4, 1);
        String two = "stakes 5;" + ROD;
        is("one round", Edge.told(two + Edge.band(1, 1, 1, 1, 0, "0")).repeats(0), 1);
        is("one round of four", Edge.told(two + Edge.band(4, 1, 1, 1, 0, "0 0 0 0")).repeats(0), 4);
        is("two rounds, otherwise", Edge.told(two + Edge.band(2, 1, 1, 2, 0, "0 0")).repeats(0), 4);
        is("three rounds", Edge.told(two + Edge.band(2, 1, 1, 3, 0, "0 0")).repeats(0), 4);
        is("40 rounds", Edge.told(two + Edge.band(4, 1, 1, 40, 0, "0 0 0 0")).repeats(0), 8);
        is("all alike", Edge.told(two + Edge.band(4, 1, 4, 40, 0, "0 0 0 0")).repeats(0), 4);
        String four = "stakes 4;" + ROD + Edge.band(1, 1, 1, 3, 0, "0");
        is("alike", Edge.told(four).repeats(0), 1);
        is("but for the last one", Edge.told(four + "slip 0 0 11;").repeats(0), 3);
        is("but for the last round", Edge.told(four + "slip 0 0 8;").repeats(0), 3);
        is("but for the first round", Edge.told(four + "slip 0 0 4;").repeats(0), 3);
        is("all otherwise alike", Edge.told(four + "slip 0 0 0;").repeats(0), 1);
        is("the second round otherwise", Edge.told(four + "slip 0 0 4;slip 0 0 8;").repeats(0), 2);
        is("one weaver of two", Edge.told("stakes 4;" + ROD + Edge.band(2, 1, 1, 3, 0, "0 0") + "slip 0 1 11;").repeats(0), 6);
        says(20, "REPEATS. -2.");
        Edge.each("bands", new long[] {x.repeats(-1), x.repeats(0), x.repeats(1), x.repeats(2)}, -2, 4, 1, -2);
        Edge.all("none such", -2, x.repeats(Edge.FAR), x.repeats(Edge.DEEP), new NoKnot().repeats(0));
        is("counted", x.status(0), 4);
    }

    // ---- promises 21 to 23

    private static void colour() {
        says(21, "The KIND SEEN most at a STAKE of a BAND, the least of like ones. NONE: none is; -2: no such BAND, STAKE.");
        NoKnot x = Edge.told(PAIR);
        Edge.each("outside", new long[] {x.colour(0, 0, false), x.colour(0, 1, false), x.colour(0, 2, false)}, 0, 1, 0);
        Edge.each("inside", new long[] {x.colour(0, 0, true), x.colour(0, 1, true), x.colour(0, 2, true)}, -1, 0, 1);
        Edge.each("one weaver", new long[] {x.colour(1, 0, false), x.colour(1, 1, false), x.colour(1, 0, true), x.colour(1, 1, true)}, 1, -1, -1, 1);
        is("NONE isn't counted", x.status(0), 0);
        is("the least, though it comes later", Edge.told(PAIR.replace("with 0 1", "with 1 0")).colour(0, 0, false), 0);
        is("one more of the other", Edge.told(PAIR.replace("with 0 1", "with 1 0")).colour(0, 1, false), 0);
        String six = "stakes 3;" + ROD.repeat(6);
        is("the greatest KIND", Edge.told(six + Edge.band(1, 1, 1, 1, 0, "5")).colour(0, 0, false), 5);
        is("two of 5 and one of 0", Edge.told(six + Edge.band(3, 4, 1, 1, 0, "5 0 5")).colour(0, 0, false), 5);
        is("two of each", Edge.told(six + Edge.band(4, 4, 1, 1, 0, "5 4 5 4")).colour(0, 0, false), 4);
        Edge.all("none such", -2, x.colour(-1, 0, false), x.colour(2, 0, false), x.colour(0, -1, true), x.colour(0, 3, true),
                x.colour(Edge.FAR, 0, true), x.colour(0, Edge.DEEP, true));
        is("counted", x.status(0), 6);
    }

    private static void floats() {
        says(0, "FLOATS: of its weavers, how often CROSSINGS that are alike stand one behind the other, more than so many"
                + " (each such stretch, as long as it goes, once).");
        NoKnot x = Edge.told(PAIR);
        // OOUUOO and OOUOOU; OUUOUUOUU.
        Edge.each("by two weavers", new long[] {x.floats(0, 1), x.floats(0, 2)}, 5, 0);
        Edge.each("by one", new long[] {x.floats(1, 1), x.floats(1, 2)}, 3, 0);
        x = Edge.told("stakes 3;" + ROD + Edge.band(2, 4, 1, 1, 0, "0 0"));
        Edge.each("they don't go on from weaver to weaver", new long[] {x.floats(0, 2), x.floats(0, 3), x.floats(0, 5)}, 2, 0, 0);
        x = Edge.told("stakes 3;" + ROD + Edge.band(1, 4, 4, 3, 0, "0"));
        // OOOOUUUUO: they go on from round to round.
        Edge.each("from round to round", new long[] {x.floats(0, 1), x.floats(0, 3), x.floats(0, 4)}, 2, 2, 0);
        is("none of one", Edge.told("stakes 3;" + ROD + BAND).floats(0, 1), 0);
    }

    private static void longFloat() {
        // By its slips at 4, 8 .. 32 it goes over from 0 to 35, and then OOOOU from 37 on, and OO.
        StringBuilder text = new StringBuilder("stakes 32;" + ROD + Edge.band(1, 4, 1, 2, 0, "0"));
        for (int i = 4; i <= 32; i += 4) text.append("slip 0 0 ").append(i).append(";");
        NoKnot x = Edge.told(text.toString());
        says(22, "FLOATS of more than so many (1 to 9999).");
        Edge.each("36 at most", new long[] {x.floats(0, 1), x.floats(0, 2), x.floats(0, 3), x.floats(0, 4), x.floats(0, 35), x.floats(0, 36),
            x.floats(0, 9999)}, 7, 6, 6, 1, 1, 0, 0);
        says(22, "-2: the BAND; -3.");
        Edge.all("can't be", -3, x.floats(0, 0), x.floats(0, 10000), x.floats(0, -1), x.floats(0, Edge.FAR), x.floats(0, Edge.DEEP));
        Edge.all("the BAND first", -2, x.floats(-1, 1), x.floats(1, 1), x.floats(1, 0), x.floats(-1, 10000), x.floats(Edge.FAR, 1));
        Edge.each("counted", new long[] {x.status(0), x.status(1)}, 5, 5);
    }

    private static String nine(int stakes) {
        return "stakes " + stakes + ";" + ROD + Edge.band(1, 1, 1, 9 / stakes, 0, "0");
    }

    private static void learner() {
        says(23, "LEARNER of a BAND by a SEED, c 0 to 100, what 0: how often he slips, 1: how many CROSSINGS are otherwise"
                + " (OVER for UNDER, UNDER for OVER) than told, 2: the first of these, by WHEN (NONE).");
        NoKnot x = Edge.told(nine(3));
        // DRAWS of seed 1, modulo 100: 38 26 13 83 19 95 78 87 80.
        int[][] wants = {{0, 0, 0, -1}, {13, 0, 0, -1}, {14, 1, 7, 2}, {38, 3, 6, 1}, {39, 4, 3, 0}, {95, 8, 5, 0}, {96, 9, 5, 0}, {100, 9, 5, 0}};
        for (int[] w : wants) {
            Edge.each("c " + w[0], new long[] {x.learner(0, 1, w[0], 0), x.learner(0, 1, w[0], 1), x.learner(0, 1, w[0], 2)}, w[1], w[2], w[3]);
        }
        says(23, "-2: the BAND, what; -3: c.");
        Edge.all("none such", -2, x.learner(-1, 1, 0, 0), x.learner(1, 1, 0, 0), x.learner(0, 1, 0, -1), x.learner(0, 1, 0, 3),
                x.learner(1, 1, 101, 0), x.learner(0, 1, -1, 3), x.learner(Edge.FAR, 1, 0, 0), x.learner(0, 1, 0, Edge.FAR));
        Edge.all("can't be", -3, x.learner(0, 1, -1, 0), x.learner(0, 1, 101, 2), x.learner(0, 1, Edge.FAR, 0), x.learner(0, 1, Edge.DEEP, 0));
        Edge.each("counted", new long[] {x.status(0), x.status(1)}, 8, 4);
        Edge.each("it tells alone", new long[] {x.crossing(0, 0, 2, 1), x.floats(0, 1)}, 1, 0);
    }

    private static void learnerBelow() {
        says(0, "for each CROSSING in time DRAW (as for WANDER) modulo 100: below c");
        NoKnot x = Edge.told(nine(3));
        // DRAWS of seed 0, modulo 100: 0 36 56 85 98 95 45 9 90.
        Edge.each("0 is below 1", new long[] {x.learner(0, 0, 0, 0), x.learner(0, 0, 1, 0), x.learner(0, 0, 9, 0), x.learner(0, 0, 10, 0)}, 0, 1, 1, 2);
        Edge.each("98 is below 99", new long[] {x.learner(0, 0, 98, 0), x.learner(0, 0, 99, 0)}, 8, 9);
        // Seed 116: its first one is 52699, 99 modulo 100; seed 2: 33676 22817 43007 of an x below 0.
        NoKnot three = Edge.told("stakes 3;" + ROD + BAND);
        Edge.each("99 is below 100 alone", new long[] {x.learner(0, 116, 99, 2), x.learner(0, 116, 100, 2)}, 1, 0);
        Edge.each("of an x below 0", new long[] {three.learner(0, 2, 7, 0), three.learner(0, 2, 8, 0), three.learner(0, 2, 17, 0),
            three.learner(0, 2, 18, 0), three.learner(0, 2, 76, 0), three.learner(0, 2, 77, 0)}, 0, 1, 1, 2, 2, 3);
        // 15929, 32768, 48697 are the first ones of the greatest seed, the least one and -1.
        int[][] seeds = {{Edge.FAR, 29}, {Edge.DEEP, 68}, {-1, 97}};
        for (int[] s : seeds) {
            is("seed " + s[0] + " not below", x.learner(0, s[0], s[1], 2) == 0 ? 1 : 0, 0);
            is("seed " + s[0] + " below", x.learner(0, s[0], s[1] + 1, 2), 0);
        }
    }

    private static void learnerTime() {
        says(0, "A LEARNER weaves a BAND as told, but slips:");
        // By i, then by weavers: weaver 0 draws 38 13 19, weaver 1 26 83 95.
        NoKnot x = Edge.told("stakes 3;" + ROD + BAND + Edge.band(2, 1, 1, 1, 0, "0 0"));
        Edge.each("two weavers", new long[] {x.learner(1, 1, 27, 0), x.learner(1, 1, 27, 1), x.learner(1, 1, 27, 2)}, 3, 4, 4);
        Edge.each("14", new long[] {x.learner(1, 1, 14, 0), x.learner(1, 1, 14, 1), x.learner(1, 1, 14, 2)}, 1, 2, 5);
        Edge.each("each BAND by the seed anew", new long[] {x.learner(0, 1, 27, 0), x.learner(0, 1, 27, 1), x.learner(0, 1, 27, 2)}, 2, 1, 1);
        says(0, "that weaver is one further in the row from it on (with all slips that were told).");
        x = Edge.told("stakes 3;" + ROD + Edge.band(1, 2, 1, 2, 0, "0") + "slip 0 0 1;");
        // Told, modulo 3: 0 2 0 1 2 0; one further from 2 on: 1 2 0 1.
        Edge.each("with a slip that was told", new long[] {x.learner(0, 1, 14, 0), x.learner(0, 1, 14, 1), x.learner(0, 1, 14, 2)}, 1, 2, 3);
    }
}
