/** Boundaries of what dries and leans, of borders, hands and lids: the terms, and promises 39 to 50. */
final class FormEdges {
    private static final String ROD = Edge.ROD;
    private static final String BAND = Edge.BAND;
    private static final String THICK = "rod 2 thick 9 shrinks 50 price 0;";

    /** KIND 0 doesn't shrink, KIND 1 does by half. */
    private static final String DRY = "stakes 3;" + ROD + THICK + Edge.band(2, 1, 1, 40, 0, "0 1") + BAND + Edge.band(1, 1, 2, 2, 0, "1");

    private FormEdges() {
    }

    static void all() {
        heights();
        height();
        loose();
        hold();
        gives();
        widths();
        width();
        bowlLeans();
        bowlNeighbours();
        bowlFirst();
        bowlFar();
        bowlRefused();
        wanderWidths();
        wander();
        borders();
        closes();
        border();
        borderRefused();
        ways();
        taughtBy();
        taught();
        lids();
        lid();
        lidRefused();
    }

    private static void says(int promise, String sentence) {
        Edge.says(promise, sentence);
    }

    private static void is(String what, long got, long want) {
        Edge.is(what, got, want);
    }

    // ---- promises 39 to 42

    private static void heights() {
        says(0, "HEIGHT of a BAND, wet: 100 times ROUNDS times all weavers' THICK; dry: ROUNDS times the sum of THICK times (100 less SHRINKS)."
                + " SLACK is wet less dry.");
        NoKnot x = Edge.told(DRY);
        Edge.each("wet", new long[] {x.height(0, false), x.height(1, false), x.height(2, false)}, 40000, 100, 1800);
        Edge.each("dry", new long[] {x.height(0, true), x.height(1, true), x.height(2, true)}, 22000, 100, 900);
        x = Edge.told("stakes 3;" + THICK + Edge.band(4, 1, 1, 40, 0, "0 0 0 0").repeat(8));
        Edge.each("the greatest", new long[] {x.height(7, false), x.height(7, true), x.height(-1, false), x.height(-1, true)}, 144000, 72000, 1152000, 576000);
    }

    private static void height() {
        says(39, "HEIGHT of a BAND (NONE: all), dry or wet. -2.");
        NoKnot x = Edge.told(DRY);
        Edge.each("wet", new long[] {x.height(-2, false), x.height(-1, false), x.height(0, false), x.height(2, false), x.height(3, false)},
                -2, 41900, 40000, 1800, -2);
        Edge.each("dry", new long[] {x.height(-2, true), x.height(-1, true), x.height(0, true), x.height(2, true), x.height(3, true)},
                -2, 23000, 22000, 900, -2);
        Edge.all("none such", -2, x.height(Edge.FAR, true), x.height(Edge.DEEP, false), new NoKnot().height(0, false));
        is("counted", x.status(0), 6);
        Edge.all("all of none", 0, new NoKnot().height(-1, true), new NoKnot().height(-1, false), Edge.told("stakes 3;" + ROD).height(-1, false));
    }

    /** BANDS of one weaver each that shrink by so much. */
    private static int looseOf(int... shrinks) {
        StringBuilder text = new StringBuilder("stakes 3;");
        for (int k = 0; k < shrinks.length; k++) text.append("rod 2 thick ").append(1 + k).append(" shrinks ").append(shrinks[k]).append(" price 0;");
        for (int k = 0; k < shrinks.length; k++) text.append(Edge.band(1, 1, 1, 1 + k, 0, "" + k));
        return Edge.told(text.toString()).loose();
    }

    private static void loose() {
        says(0, "LOOSE: the BAND with the greatest SLACK by wet HEIGHT (as fractions), of like ones the first.");
        Edge.each("beside one another", new long[] {looseOf(10, 9), looseOf(10, 10), looseOf(10, 11), looseOf(0, 0), looseOf(0, 1), looseOf(50, 49)},
                0, 0, 1, 0, 1, 0);
        Edge.each("three", new long[] {looseOf(3, 7, 7), looseOf(7, 3, 8), looseOf(7, 3, 7), looseOf(0, 50, 50)}, 1, 2, 0, 1);
        String mixed = "stakes 3;rod 2 thick 1 shrinks 10 price 0;rod 2 thick 1 shrinks 20 price 0;rod 2 thick 7 shrinks ";
        String bands = " price 0;" + Edge.band(2, 1, 1, 1, 0, "0 1") + Edge.band(1, 1, 1, 3, 0, "2");
        Edge.each("30 of 200", new long[] {Edge.told(mixed + 14 + bands).loose(), Edge.told(mixed + 15 + bands).loose(), Edge.told(mixed + 16 + bands).loose()},
                0, 0, 1);
        // 5 of 100 by the first, 16 of 400 by the second.
        is("a great SLACK of a high BAND", looseOf(5, 4), 0);
        says(40, "LOOSE; NONE: no BAND.");
        Edge.each("no BAND, one", new long[] {new NoKnot().loose(), Edge.told("stakes 3;" + ROD).loose(), Edge.told("stakes 3;" + ROD + BAND).loose()}, -1, -1, 0);
        NoKnot x = new NoKnot();
        x.loose();
        is("NONE isn't counted", x.status(0), 0);
        is("the last of eight", Edge.told("stakes 3;" + ROD + THICK + BAND.repeat(7) + BAND.replace("with 0", "with 1")).loose(), 7);
    }

    private static void hold() {
        says(0, "HOLD: over its weavers, how often OVER and UNDER change from one CROSSING to the next, times THICK times (100 less SHRINKS), added.");
        NoKnot x = Edge.told(DRY);
        // 120 CROSSINGS change 119 times; OUO twice; OUUOUU three times.
        Edge.each("bands", new long[] {x.hold(0), x.hold(1), x.hold(2)}, 119 * 100 + 119 * 450, 200, 3 * 450);
        is("never", Edge.told("stakes 3;" + ROD + Edge.band(4, 4, 1, 1, 0, "0 0 0 0")).hold(0), 0);
        is("at the round's end alone", Edge.told("stakes 4;" + ROD + Edge.band(1, 4, 4, 2, 0, "0")).hold(0), 100);
        is("at the last CROSSING alone", Edge.told("stakes 5;" + ROD + Edge.band(1, 4, 4, 1, 0, "0")).hold(0), 100);
        is("a slip takes one away", Edge.told("stakes 3;" + ROD + BAND + "slip 0 0 1;").hold(0), 100);
        x = Edge.told("stakes 32;" + ROD + Edge.band(1, 1, 1, 40, 0, "0") + Edge.band(1, 4, 4, 40, 0, "0"));
        Edge.each("as many as can be", new long[] {x.hold(0), x.hold(1)}, 127900, 31900);
        says(41, "HOLD of a BAND. -2.");
        x = Edge.told(DRY);
        Edge.each("bands", new long[] {x.hold(-1), x.hold(0), x.hold(2), x.hold(3)}, -2, 65450, 1350, -2);
        Edge.all("none such", -2, x.hold(Edge.FAR), x.hold(Edge.DEEP), new NoKnot().hold(0));
        is("counted", x.status(0), 4);
    }

    private static void gives() {
        says(42, "BANDS whose HOLD is below a load, as bits. -3: it is below 0.");
        NoKnot x = Edge.told(DRY);
        int[][] wants = {{0, 0}, {199, 0}, {200, 0}, {201, 2}, {1350, 2}, {1351, 6}, {65450, 6}, {65451, 7}, {Edge.FAR, 7}};
        for (int[] w : wants) is("load " + w[0], x.gives(w[0]), w[1]);
        Edge.all("below 0", -3, x.gives(-1), x.gives(Edge.DEEP));
        is("counted", x.status(1), 2);
        Edge.each("no BAND", new long[] {new NoKnot().gives(-1), new NoKnot().gives(0), new NoKnot().gives(1)}, -3, 0, 0);
        x = Edge.told("stakes 3;" + ROD + BAND.replace("before 1", "before 4").repeat(8));
        Edge.each("a HOLD of 0", new long[] {x.gives(0), x.gives(1)}, 0, 255);
    }

    // ---- promises 43 to 45

    private static NoKnot leaning(int wide, int rounds, String... leans) {
        StringBuilder text = new StringBuilder("stakes 3;" + ROD + "wide " + wide + ";");
        for (String lean : leans) text.append(Edge.band(1, 1, 1, rounds, 0, "0" + lean));
        return Edge.told(text.toString());
    }

    private static void widths() {
        says(0, "WIDTH behind a BAND: that ahead of it (wide, ahead of the first) and LEAN times ROUNDS, 1 at least.");
        Edge.each("to 2, 1, 0 and below", new long[] {leaning(11, 1, " in 9").width(0), leaning(10, 1, " in 9").width(0), leaning(9, 1, " in 9").width(0),
            leaning(1, 40, " in 9").width(0)}, 2, 1, 1, 1);
        NoKnot x = leaning(5, 2, " in 9", " out 1", "", " in 2", " out 9");
        Edge.each("from there on", new long[] {x.width(-1), x.width(0), x.width(1), x.width(2), x.width(3), x.width(4)}, 5, 1, 3, 3, 1, 19);
        is("the widest", leaning(999, 40, " out 9", " out 9", " out 9", " out 9", " out 9", " out 9", " out 9").width(6), 999 + 7 * 360);
    }

    private static void width() {
        says(43, "WIDTH behind a BAND (NONE: wide). -2.");
        NoKnot x = leaning(999, 1, " out 1", " out 2");
        Edge.each("bands", new long[] {x.width(-2), x.width(-1), x.width(0), x.width(1), x.width(2)}, -2, 999, 1000, 1002, -2);
        Edge.all("none such", -2, x.width(Edge.FAR), x.width(Edge.DEEP), new NoKnot().width(0));
        is("counted", x.status(0), 4);
        Edge.each("no BAND", new long[] {new NoKnot().width(-1), Edge.told("wide 1;").width(-1)}, 100, 1);
    }

    /** The differences, behind them the LEANS. */
    private static long[] bowled(NoKnot x, int d, long... wishes) {
        Check.row(x, 0, 3, wishes);
        long[] out = new long[wishes.length + 1];
        for (int what = -1; what < wishes.length; what++) out[what + 1] = x.bowl(0, d, what);
        return out;
    }

    private static void bowlLeans() {
        says(0, "BOWL: for wished WIDTHS (one for each BAND), of rows of LEANS (-9 to 9)");
        int[][] wants = {{91, 0, -9}, {90, 1, -9}, {109, 0, 9}, {110, 1, 9}, {100, 0, 0}, {101, 0, 1}, {99, 0, -1}, {1, 90, -9}, {9999, 9890, 9}};
        for (int[] w : wants) Edge.each("wish " + w[0], bowled(leaning(100, 1, ""), 18, w[0]), w[1], w[2]);
        Edge.each("40 rounds", bowled(leaning(999, 40, ""), 0, 1359), 0, 9);
        Edge.each("one more", bowled(leaning(999, 40, ""), 0, 1360), 1, 9);
        Edge.each("to 1", bowled(leaning(361, 40, ""), 0, 1), 0, -9);
        Edge.each("to 2", bowled(leaning(362, 40, ""), 0, 1), 1, -9);
        Edge.each("1 at least", bowled(leaning(5, 1, ""), 0, 2), 0, -3);
        // From 100 the second one comes to 109 or 91 by 9 or -9 alone, to 110 or 90 only if the first one leans.
        Edge.each("of the second BAND, out", bowled(leaning(100, 1, "", ""), 18, 100, 109), 0, 0, 9);
        Edge.each("of the second BAND, 10 out", bowled(leaning(100, 1, "", ""), 18, 100, 110), 1, 0, 9);
        Edge.each("of the second BAND, in", bowled(leaning(100, 1, "", ""), 18, 100, 91), 0, 0, -9);
        Edge.each("of the second BAND, 10 in", bowled(leaning(100, 1, "", ""), 18, 100, 90), 1, -1, -9);
        Edge.each("what the BANDS' LEANS are is no matter", bowled(leaning(100, 1, " out 9"), 0, 100), 0, 0);
    }

    private static void bowlNeighbours() {
        says(0, "in which neighbours differ by d at most");
        // 109 and then 100 again: 9 and -9 differ by 18.
        int[][] wants = {{18, 0, 9, -9}, {17, 1, 8, -8}, {2, 8, 1, -1}, {1, 9, 0, 0}, {0, 9, 0, 0}};
        for (int[] w : wants) Edge.each("down, d " + w[0], bowled(leaning(100, 1, "", ""), w[0], 109, 100), w[1], w[2], w[3]);
        // 91 and then 100: of one that differs by 1 the first is the lesser LEAN of BAND 0.
        int[][] ups = {{18, 0, -9, 9}, {17, 1, -9, 8}, {0, 9, 0, 0}};
        for (int[] w : ups) Edge.each("up, d " + w[0], bowled(leaning(100, 1, "", ""), w[0], 91, 100), w[1], w[2], w[3]);
        // 99 and 101 are 1 from 100.
        Edge.each("d 0, one in", bowled(leaning(100, 1, "", ""), 0, 100, 99), 1, 0, 0);
        Edge.each("d 1, one in", bowled(leaning(100, 1, "", ""), 1, 100, 99), 0, 0, -1);
        Edge.each("d 0, one out", bowled(leaning(100, 1, "", ""), 0, 100, 101), 1, 0, 0);
        Edge.each("d 1, one out", bowled(leaning(100, 1, "", ""), 1, 100, 101), 0, 0, 1);
        for (int d = 0; d <= 18; d++) byAllLeans(d);
        Edge.each("neighbours alone", bowled(leaning(100, 1, "", "", ""), 9, 109, 109, 100), 0, 9, 0, -9);
        Edge.each("less than they need", bowled(leaning(100, 1, "", "", ""), 8, 109, 109, 100), 2, 8, 0, -8);
    }

    /** Each row of LEANS is tried; the best way to a WIDTH isn't always the one that can go on (9 and -9, too). */
    private static void byAllLeans(int d) {
        int[][] rounds = {{1, 1, 2, 2}, {22, 3, 31, 39}, {1, 27, 25}, {6, 2, 30, 14}, {20, 2, 35, 26}};
        int[] wide = {236, 234, 53, 46, 816};
        long[][] wishes = {{238, 238, 252, 235}, {234, 207, 364, 11}, {54, 297, 322}, {94, 106, 376, 502}, {736, 738, 423, 189}};
        for (int k = 0; k < wide.length; k++) {
            StringBuilder text = new StringBuilder("stakes 3;" + ROD + "wide " + wide[k] + ";");
            for (int r : rounds[k]) text.append(Edge.band(1, 1, 1, r, 0, "0"));
            int[] best = Oracle.of(text.toString()).bowl(wishes[k], d);
            long[] got = bowled(Edge.told(text.toString()), d, wishes[k]);
            is("differences, d " + d, got[0], best[best.length - 1]);
            for (int b = 0; b + 1 < best.length; b++) is("LEAN of " + b + ", d " + d, got[b + 1], best[b]);
        }
    }

    private static void bowlFirst() {
        says(0, "those for which the differences of WIDTHS behind BANDS from wished ones, added, are least;"
                + " of like ones the first (the least LEAN of BAND 0, then 1 ..).");
        Edge.each("10 and 12 for 11", bowled(leaning(10, 2, ""), 18, 11), 1, 0);
        Edge.each("all that make 1", bowled(leaning(5, 1, ""), 18, 1), 0, -9);
        Edge.each("1 and 1", bowled(leaning(5, 1, "", ""), 0, 1, 1), 0, -9, -9);
        // From 1 on 10 comes by 9 alone, the next ones of BAND 0 stay at 1 up to -4.
        Edge.each("as near as d lets", bowled(leaning(5, 1, "", ""), 13, 1, 10), 0, -4, 9);
        Edge.each("one further", bowled(leaning(5, 1, "", ""), 14, 1, 10), 0, -5, 9);
        // From 101 a LEAN of -1 makes 98: no nearer than 101.
        Edge.each("then BAND 1", bowled(leaning(101, 3, "", ""), 18, 100, 100), 2, 0, 0);
        Edge.each("BAND 0 ahead of BAND 1", bowled(leaning(100, 2, "", ""), 18, 101, 102), 1, 0, 1);
    }

    private static void bowlFar() {
        says(0, "(one for each BAND)");
        NoKnot x = leaning(999, 40, "", "", "", "", "", "", "");
        long[] wide = new long[7];
        java.util.Arrays.fill(wide, 9999);
        // 7 times 9000 less 360 times 28.
        Edge.each("as wide as can be", bowled(x, 18, wide), 63000 - 360 * 28, 9, 9, 9, 9, 9, 9, 9);
        java.util.Arrays.fill(wide, 1);
        Edge.each("as narrow as can be", bowled(x, 0, wide), 638 + 278, -9, -9, -9, -9, -9, -9, -9);
        x = Edge.told("stakes 3;" + ROD + BAND.repeat(8));
        Edge.each("eight", bowled(x, 1, 101, 103, 106, 110, 115, 121, 128, 136), 0, 1, 2, 3, 4, 5, 6, 7, 8);
        Edge.each("eight by 0", bowled(x, 0, 101, 102, 103, 104, 105, 106, 107, 108), 0, 1, 1, 1, 1, 1, 1, 1, 1);
    }

    private static void bowlRefused() {
        says(44, "BOWL by a ROW OF NUMBERS, d 0 to 18, what NONE: the differences, added, k: the LEAN of BAND k.");
        NoKnot x = leaning(100, 1, "", "");
        Check.row(x, 0, 1, 109, 100);
        Edge.each("whats", new long[] {x.bowl(0, 18, -2), x.bowl(0, 18, -1), x.bowl(0, 18, 0), x.bowl(0, 18, 1), x.bowl(0, 18, 2)}, -100, 0, 9, -9, -100);
        Edge.each("d", new long[] {x.bowl(0, -1, -1), x.bowl(0, 0, -1), x.bowl(0, 18, -1), x.bowl(0, 19, -1)}, -100, 9, 0, -100);
        says(44, "-100: no such ROW, what; it is MISSING; not as many numbers as BANDS, none; a wish that isn't 1 to 9999; d.");
        Edge.all("refused", -100, x.bowl(-1, 1, 0), x.bowl(4, 1, 0), x.bowl(1, 1, 0), x.bowl(3, 1, -1), x.bowl(Edge.FAR, 1, 0), x.bowl(0, Edge.FAR, 0),
                x.bowl(0, Edge.DEEP, 0), x.bowl(0, 1, Edge.FAR), x.bowl(0, 1, Edge.DEEP));
        Edge.each("counted", new long[] {x.status(0), x.status(1), x.status(3)}, 0, 13, 0);
        long[][] rows = {{}, {100}, {100, 100}, {100, 100, 100}, {0, 100}, {1, 100}, {9999, 100}, {10000, 100}, {100, 0}, {100, 1}, {100, 9999},
            {100, 10000}, {100, -1}, {1L << 32 | 100, 100}};
        // The LEAN of BAND 0; of {100, 1} and {100, 9999} it may be -9 to 0 and 0 to 9.
        long[] wants = {-100, -100, 0, -100, -100, -9, 9, -100, -100, -9, 0, -100, -100, -100};
        for (int k = 0; k < rows.length; k++) {
            Check.row(x, 0, 3, rows[k]);
            is("numbers " + k, x.bowl(0, 18, 0), wants[k]);
        }
        x = Edge.told("stakes 3;" + ROD);
        x.numbers(0, 0, 0);
        Edge.all("no BAND", -100, x.bowl(0, 1, -1), x.bowl(0, 1, 0));
        Check.row(x, 0, 0, 100);
        is("no BAND and a number", x.bowl(0, 1, -1), -100);
        is("just one", leaningOne().bowl(0, 0, -1), 0);
    }

    private static NoKnot leaningOne() {
        NoKnot x = leaning(100, 1, "");
        Check.row(x, 0, 0, 100);
        return x;
    }

    private static long[] wandered(NoKnot x, int seed) {
        return new long[] {x.wander(seed, 0), x.wander(seed, 1), x.wander(seed, 2)};
    }

    private static void wanderWidths() {
        says(0, "WANDER by a SEED (x, an int; a DRAW: x becomes 1103515245 x + 12345, it is x >>> 16): BAND by BAND, round by round:"
                + " WIDTH becomes LEAN and (DRAW modulo 3) less 1 more, 1 at least.");
        // Seed 1: 1 -1 -1 -1 -1 0 1 1 1; seed 0: -1 1 -1 -1 -1 -1 0 -1 0.
        Edge.each("nine rounds", wandered(leaning(100, 9, ""), 1), 100, 97, 101);
        Edge.each("along 1", wandered(leaning(1, 9, ""), 0), 1, 1, 2);
        Edge.each("one more", wandered(leaning(2, 9, ""), 0), 1, 1, 2);
        Edge.each("three", wandered(leaning(3, 9, ""), 0), 1, 1, 3);
        Edge.each("LEAN 9", wandered(leaning(100, 1, " out 9"), 1), 110, 110, 110);
        Edge.each("LEAN -9", wandered(leaning(100, 1, " in 9"), 0), 90, 90, 90);
        Edge.each("to 2, 1, 0", new long[] {leaning(12, 1, " in 9").wander(0, 0), leaning(11, 1, " in 9").wander(0, 0), leaning(10, 1, " in 9").wander(0, 0)},
                2, 1, 1);
        Edge.each("BAND by BAND", wandered(leaning(100, 1, "", " out 2", " in 3"), 1), 98, 98, 102);
        // The first ones: 15929, 32768 and 48697, 2, 2 and 1 modulo 3.
        Edge.each("seeds", new long[] {leaning(5, 1, "").wander(Edge.FAR, 0), leaning(5, 1, "").wander(Edge.DEEP, 0), leaning(5, 1, "").wander(-1, 0)}, 6, 6, 5);
    }

    private static void wander() {
        says(45, "WANDER, what 0: the WIDTH behind all, 1: the least behind any round (wide without), 2: the greatest. -2: what.");
        Edge.each("one round up: wide isn't behind any", wandered(leaning(100, 1, ""), 1), 101, 101, 101);
        Edge.each("one round down", wandered(leaning(100, 1, ""), 0), 99, 99, 99);
        Edge.each("without", wandered(Edge.told("wide 7;"), 1), 7, 7, 7);
        Edge.each("an empty one", wandered(new NoKnot(), 1), 100, 100, 100);
        NoKnot x = leaning(100, 2, "");
        Edge.each("whats", new long[] {x.wander(1, -1), x.wander(1, 0), x.wander(1, 1), x.wander(1, 2), x.wander(1, 3)}, -2, 100, 100, 101, -2);
        Edge.all("none such", -2, x.wander(1, Edge.FAR), x.wander(1, Edge.DEEP), new NoKnot().wander(0, 3));
        Edge.each("counted, and it tells alone", new long[] {x.status(0), x.width(0)}, 4, 100);
    }

    // ---- promises 46 and 47

    private static int closing(int stakes, long... moves) {
        NoKnot x = Edge.told("stakes " + stakes + ";");
        Check.row(x, 0, 3, moves);
        return x.closes(0);
    }

    private static void borders() {
        says(0, "A BORDER of m moves (each 1 to stakes less 1): STAKE s goes to STAKE s and move (s modulo m), round the stakes."
                + " It CLOSES, if to each STAKE just one goes.");
        Edge.each("one move by 3 stakes", new long[] {closing(3, 0), closing(3, 1), closing(3, 2), closing(3, 3)}, -3, 1, 1, -3);
        Edge.each("one move by 32 stakes", new long[] {closing(32, 0), closing(32, 1), closing(32, 31), closing(32, 32)}, -3, 1, 1, -3);
        Edge.each("two moves by 3", new long[] {closing(3, 1, 1), closing(3, 1, 2), closing(3, 2, 1), closing(3, 2, 2)}, 1, 0, 0, 1);
        Edge.each("two moves by 4", new long[] {closing(4, 1, 3), closing(4, 3, 1), closing(4, 1, 2), closing(4, 2, 2), closing(4, 2, 3)}, 1, 1, 0, 1, 0);
        Edge.each("as many moves as stakes", new long[] {closing(3, 1, 1, 1), closing(3, 1, 1, 2), closing(3, 2, 1, 1), closing(4, 1, 3, 1, 3), closing(4, 3, 1, 1, 3)},
                1, 0, 0, 1, 0);
        Edge.each("more moves than stakes", new long[] {closing(3, 1, 1, 1, 2), closing(3, 1, 1, 2, 1), closing(3, 1, 1, 1, 3)}, 1, 0, -3);
        // The last STAKE goes 31 on, to the one ahead of it: there is one already.
        long[] most = new long[32];
        java.util.Arrays.fill(most, 1);
        is("32 moves", closing(32, most), 1);
        most[31] = 31;
        is("the last STAKE otherwise", closing(32, most), 0);
        // Two go to STAKE 31, none to STAKE 1.
        most[31] = 1;
        most[0] = 31;
        is("the first STAKE to the last one", closing(32, most), 0);
        // Two go to STAKE 0, none to STAKE 31.
        most[0] = 1;
        most[30] = 2;
        is("round to the first one", closing(32, most), 0);
    }

    private static void closes() {
        says(46, "Whether the moves in a ROW OF NUMBERS CLOSE: 1, 0. -2: the ROW; -5: no stakes; -6;"
                + " -3: it has no number, or one isn't 1 to stakes less 1.");
        NoKnot x = new NoKnot();
        Edge.each("no stakes, ahead of MISSING", new long[] {x.closes(-1), x.closes(0), x.closes(3), x.closes(4)}, -2, -5, -5, -2);
        Check.row(x, 0, 0);
        is("no stakes, ahead of no number", x.closes(0), -5);
        x = Edge.told("stakes 3;");
        Edge.each("MISSING", new long[] {x.closes(-1), x.closes(0), x.closes(3), x.closes(4), x.closes(Edge.FAR), x.closes(Edge.DEEP)}, -2, -6, -6, -2, -2, -2);
        Edge.each("numbers", new long[] {closing(3), closing(3, 1), closing(3, 1, 0), closing(3, 1, 3), closing(3, -1), closing(3, 1L << 32 | 1)},
                -3, 1, -3, -3, -3, -3);
        long[] forty = new long[40];
        java.util.Arrays.fill(forty, 2);
        is("forty", closing(3, forty), 1);
        forty[39] = 3;
        is("the last of forty", closing(3, forty), -3);
        Edge.each("counted", new long[] {x.status(0), x.status(2), x.status(3)}, 4, 0, 2);
    }

    private static void border() {
        says(47, "Of all BORDERS of m moves (1 to 4), each 1 to most (1 to 6, less than stakes), what 0: how many CLOSE,"
                + " 1: the least sum of moves of one that does, 2: the first such (by moves, the first one ahead) as digits (the first move the highest).");
        int[] digits = {1, 11, 111, 1111};
        int[] by3 = {2, 2, 2, 4};
        for (int m = 1; m <= 4; m++) {
            NoKnot x = Edge.told("stakes 3;");
            Edge.each("by 3 stakes " + m, new long[] {x.border(m, 2, 0), x.border(m, 2, 1), x.border(m, 2, 2)}, by3[m - 1], m, digits[m - 1]);
            Edge.each("most 1, " + m, new long[] {x.border(m, 1, 0), x.border(m, 1, 1), x.border(m, 1, 2)}, 1, m, digits[m - 1]);
        }
        Edge.each("one move", new long[] {Edge.told("stakes 7;").border(1, 6, 0), Edge.told("stakes 32;").border(1, 6, 0)}, 6, 6);
        // Like moves, and 1 3, and 3 1.
        Edge.each("two moves by 4", new long[] {Edge.told("stakes 4;").border(2, 3, 0), Edge.told("stakes 4;").border(2, 3, 1)}, 5, 2);
        // All that go elsewhere by four: nine.
        Edge.each("four moves by 4", new long[] {Edge.told("stakes 4;").border(4, 3, 0), Edge.told("stakes 4;").border(4, 3, 2)}, 9, 1111);
        // By 9 stakes three moves go to other rests by 3 each, and there are two of each rest: 6 times 8.
        is("three moves by 9", Edge.told("stakes 9;").border(3, 6, 0), 48);
        // By 12 stakes likewise by 4: of rests 0 to 3 there are 1, 2, 2, 1.
        Edge.each("four moves by 12 and by 7", new long[] {Edge.told("stakes 12;").border(4, 6, 0), Edge.told("stakes 32;").border(4, 6, 0),
            Edge.told("stakes 7;").border(4, 6, 0)}, 130, 130, 26);
        // 5 and 7 don't go with 2: only like moves close.
        Edge.each("two moves by 5 and by 7", new long[] {Edge.told("stakes 5;").border(2, 4, 0), Edge.told("stakes 7;").border(2, 6, 0)}, 4, 6);
    }

    private static void borderRefused() {
        says(47, "-5: no stakes; -3: m, most; -2: what.");
        NoKnot x = new NoKnot();
        Edge.all("no stakes first", -5, x.border(1, 1, 0), x.border(0, 1, 0), x.border(1, 1, 3), x.border(1, 0, -1));
        is("counted", x.status(2), 4);
        x = Edge.told("stakes 7;");
        Edge.each("m", new long[] {x.border(0, 1, 0), x.border(1, 1, 0), x.border(4, 1, 0), x.border(5, 1, 0)}, -3, 1, 1, -3);
        Edge.each("most", new long[] {x.border(1, 0, 0), x.border(1, 1, 0), x.border(1, 6, 0), x.border(1, 7, 0)}, -3, 1, 6, -3);
        Edge.each("what", new long[] {x.border(1, 1, -1), x.border(1, 1, 0), x.border(1, 1, 2), x.border(1, 1, 3)}, -2, 1, 1, -2);
        Edge.all("m and most ahead of what", -3, x.border(0, 1, 3), x.border(1, 7, -1), x.border(Edge.FAR, 1, 0), x.border(1, Edge.FAR, 0), x.border(Edge.DEEP, 1, 0),
                x.border(1, Edge.DEEP, 0));
        Edge.each("counted", new long[] {x.status(0), x.status(1)}, 2, 10);
        for (int n = 3; n <= 8; n++) {
            x = Edge.told("stakes " + n + ";");
            int most = Math.min(6, n - 1);
            Edge.each("less than " + n, new long[] {x.border(1, most, 0), x.border(1, most + 1, 0)}, most, -3);
        }
    }

    // ---- promises 48 and 49

    private static void ways() {
        says(0, "HANDS 0 to 7 have WAYS (8 bits; none told at first).");
        NoKnot x = new NoKnot();
        for (int hand = 0; hand < 8; hand++) Edge.each("hand " + hand, new long[] {x.taught(hand), x.ways(hand, 255), x.ways(hand, 255)}, -2, -1, 255);
        says(48, "WAYS of a HAND (0 to 255; NONE: it is told no more): those it had (NONE). -2: no such HAND; -3.");
        Edge.each("hands", new long[] {x.ways(-1, 0), x.ways(0, 0), x.ways(7, 1), x.ways(8, 0)}, -2, 255, 255, -2);
        Edge.each("bits", new long[] {x.ways(0, -2), x.ways(0, 0), x.ways(0, 255), x.ways(0, 256), x.ways(0, 1)}, -3, 0, 0, -3, 255);
        Edge.each("told no more", new long[] {x.ways(0, -1), x.ways(0, -1), x.ways(0, 0), x.ways(0, -1), x.ways(7, -1)}, 1, -1, -1, 0, 1);
        Edge.all("the HAND first", -2, x.ways(8, 256), x.ways(-1, -2), x.ways(Edge.FAR, 0), x.ways(Edge.DEEP, 0));
        Edge.all("bits", -3, x.ways(3, Edge.FAR), x.ways(3, Edge.DEEP));
        Edge.each("counted", new long[] {x.status(0), x.status(1)}, 8 + 6, 4);
        is("it stays", x.ways(3, 255), 255);
    }

    private static NoKnot hands(int... ways) {
        NoKnot x = new NoKnot();
        for (int hand = 0; hand < ways.length; hand++) x.ways(hand, ways[hand]);
        return x;
    }

    private static long[] teachers(NoKnot x) {
        long[] out = new long[9];
        for (int hand = 0; hand < 8; hand++) out[hand] = x.taught(hand);
        out[8] = x.taught(-1);
        return out;
    }

    private static void taughtBy() {
        says(0, "Who TAUGHT whom: the one of least number of those told is first; again and again, of one who stands in it and one who doesn't,"
                + " those two whose WAYS differ in the fewest bits (then the least who stands in it, then the least other one): that one was TAUGHT by this one.");
        Edge.each("all alike", teachers(hands(9, 9, 9, 9, 9, 9, 9, 9)), -1, 0, 0, 0, 0, 0, 0, 0, 0);
        Edge.each("all bits", teachers(hands(0, 255)), -1, 0, -2, -2, -2, -2, -2, -2, 8);
        Edge.each("one by one", teachers(hands(0, 1, 3, 7, 15, 31, 63, 127)), -1, 0, 1, 2, 3, 4, 5, 6, 7);
        Edge.each("from the last one", teachers(hands(0, 127, 63, 31, 15, 7, 3, 1)), -1, 2, 3, 4, 5, 6, 7, 0, 7);
        Edge.each("the first isn't 0", teachers(hands(-1, -1, 0, -1, 255, -1, 254)), -2, -2, -1, -2, 6, -2, 2, -2, 8);
        Edge.each("the last alone", teachers(hands(-1, -1, -1, -1, -1, -1, -1, 5)), -2, -2, -2, -2, -2, -2, -2, -1, 0);
        // 2 differs by two bits from 0 and from 1.
        Edge.each("the least who stands in it", teachers(hands(0, 3, 5)), -1, 0, 0, -2, -2, -2, -2, -2, 4);
        // 0 and 3 differ by two, 1 from both by four; 1 and 2 by one: 2 comes by 3, then 1.
        Edge.each("fewest bits ahead of numbers", teachers(hands(0, 0b11110000, 0b11100000, 0b11)), -1, 2, 0, 0, -2, -2, -2, -2, 6);
    }

    private static void taught() {
        says(49, "By whom a HAND was TAUGHT; NONE: by nobody; hand NONE: in how many bits all that were taught differ from who taught them, together.");
        Edge.each("nobody is told", new long[] {new NoKnot().taught(-1), new NoKnot().taught(0), hands(7).taught(0), hands(7).taught(-1)}, 0, -2, -1, 0);
        NoKnot x = hands(0, 255, 255);
        Edge.each("by nobody, by 0, by 1", new long[] {x.taught(0), x.taught(1), x.taught(2), x.taught(-1)}, -1, 0, 1, 8);
        says(49, "-2: no such HAND, or it isn't told.");
        Edge.all("none such", -2, x.taught(-2), x.taught(8), x.taught(3), x.taught(7), x.taught(Edge.FAR), x.taught(Edge.DEEP));
        is("counted", x.status(0), 6);
        x.ways(0, -1);
        Edge.each("told no more", new long[] {x.taught(0), x.taught(1), x.taught(2), x.taught(-1)}, -2, -1, 1, 0);
        x = new NoKnot();
        x.ways(0, 1);
        x.ways(7, 2);
        Edge.each("the last by the first", new long[] {x.taught(7), x.taught(-1), x.ways(0, -1), x.taught(7), x.taught(-1)}, 0, 2, 1, -1, 0);
    }

    // ---- promise 50

    /** KINDS that shrink by 0, 50 and 10. */
    private static NoKnot kinds() {
        return Edge.told("rod 2 thick 1 shrinks 0 price 0;rod 2 thick 1 shrinks 50 price 0;rod 2 thick 1 shrinks 10 price 0;");
    }

    private static long[] fits(NoKnot x, int kind, int rim, int w, int play) {
        return new long[] {x.lid(kind, rim, w, play, 0), x.lid(kind, rim, w, play, 1), x.lid(kind, rim, w, play, 2)};
    }

    private static void lids() {
        NoKnot x = kinds();
        says(0, "A LID: a basket WIDE w of a KIND dries to w times (100 less SHRINKS) by 100, downwards.");
        Edge.each("a rim of 12 dries to 6", fits(x, 0, 1, 12, 1), 7, 7, 1);
        Edge.each("a rim of 11 to 5", fits(x, 0, 1, 11, 1), 6, 6, 1);
        Edge.each("a rim of 1 to 0", fits(x, 0, 1, 1, 1), 1, 1, 1);
        Edge.each("a rim of 1 of 90 in 100 to 0", fits(x, 0, 2, 1, 1), 1, 1, 1);
        Edge.each("a rim of 10 of 90 in 100 to 9", fits(x, 0, 2, 10, 1), 10, 10, 1);
        Edge.each("a lid of 22 and of 23 to 11", fits(x, 1, 0, 10, 1), 22, 23, 2);
        Edge.each("a lid of 12 of 90 in 100 to 10", fits(x, 2, 0, 9, 1), 12, 12, 1);
        says(0, "Wet WIDTHS (1 to 2,000) of a LID of a KIND FIT, if it dries to what the rim dries to and 1 at least, and PLAY at most, more.");
        Edge.each("PLAY 1", fits(x, 0, 0, 10, 1), 11, 11, 1);
        Edge.each("PLAY 2", fits(x, 0, 0, 10, 2), 11, 12, 2);
        Edge.each("to 1000 by 1999", fits(x, 1, 0, 998, 1), 1998, 1999, 2);
        Edge.each("to 1000 by 2000", fits(x, 1, 0, 998, 2), 1998, 2000, 3);
        Edge.each("2000 alone", fits(x, 1, 0, 999, 1), 2000, 2000, 1);
        Edge.each("2000 alone, though more FIT", fits(x, 1, 0, 999, 99), 2000, 2000, 1);
        Edge.each("2002 isn't", fits(x, 1, 0, 1000, 99), -1, -1, 0);
    }

    private static void lid() {
        says(50, "Of wet WIDTHS of a LID of a KIND that FIT a rim of WIDTH w (1 to 1,500) of another KIND, what 0: the least, 1: the greatest, 2: how many.");
        NoKnot x = kinds();
        Edge.each("the least w", fits(x, 0, 0, 1, 1), 2, 2, 1);
        Edge.each("the greatest w and PLAY", fits(x, 0, 0, 1500, 99), 1501, 1599, 99);
        Edge.each("by half", fits(x, 0, 1, 1500, 99), 751, 849, 99);
        Edge.each("both by half", fits(x, 1, 1, 1500, 99), 1502, 1699, 198);
        says(50, "NONE: none (what 2: 0);");
        Edge.each("none", fits(x, 1, 0, 1500, 99), -1, -1, 0);
        Edge.each("none by one", fits(x, 1, 0, 1000, 1), -1, -1, 0);
        Edge.each("one", fits(x, 1, 0, 999, 1), 2000, 2000, 1);
        is("NONE isn't counted", x.status(0), 0);
        for (int shrinks : new int[] {0, 1, 10, 33, 49, 50}) {
            for (int w = 1; w <= 1500; w += 7) byAllWidths(shrinks, w, 1 + w % 3);
            byAllWidths(shrinks, 99, 1);
            byAllWidths(shrinks, 1500, 99);
        }
    }

    private static void byAllWidths(int shrinks, int w, int play) {
        int least = -1;
        int greatest = -1;
        int many = 0;
        for (int v = 1; v <= 2000; v++) {
            int more = v * (100 - shrinks) / 100 - w;
            if (more < 1 || more > play) continue;
            least = many == 0 ? v : least;
            greatest = v;
            many++;
        }
        NoKnot x = Edge.told("rod 2 thick 1 shrinks " + shrinks + " price 0;" + ROD);
        Edge.each("shrinks " + shrinks + ", w " + w, fits(x, 0, 1, w, play), least, greatest, many);
    }

    private static void lidRefused() {
        says(50, "-2: KINDS (both may be one), what; -3: w, PLAY (1 to 99).");
        NoKnot x = kinds();
        Edge.all("none such", -2, x.lid(-1, 0, 1, 1, 0), x.lid(3, 0, 1, 1, 0), x.lid(0, -1, 1, 1, 0), x.lid(0, 3, 1, 1, 0), x.lid(0, 0, 1, 1, -1),
                x.lid(0, 0, 1, 1, 3), x.lid(0, 0, 0, 1, 3), x.lid(3, 0, 1, 0, 0), x.lid(Edge.FAR, 0, 1, 1, 0), x.lid(0, Edge.FAR, 1, 1, 0),
                x.lid(0, 0, 1, 1, Edge.FAR));
        Edge.all("w and PLAY", -3, x.lid(0, 0, 0, 1, 0), x.lid(0, 0, 1501, 1, 0), x.lid(0, 0, 1, 0, 0), x.lid(0, 0, 1, 100, 0), x.lid(0, 0, -1, 1, 2),
                x.lid(0, 0, Edge.FAR, 1, 2), x.lid(0, 0, 1, Edge.FAR, 2), x.lid(0, 0, Edge.DEEP, Edge.DEEP, 2));
        Edge.each("counted", new long[] {x.status(0), x.status(1)}, 11, 8);
        Edge.each("just can be", new long[] {x.lid(0, 0, 1, 1, 0), x.lid(2, 2, 1500, 99, 2), x.lid(0, 2, 1500, 1, 0), x.lid(2, 0, 1, 99, 0)}, 2, 110, 1351, 3);
        is("no KIND", new NoKnot().lid(0, 0, 1, 1, 0), -2);
        x = Edge.told(ROD.repeat(6));
        Edge.each("six KINDS", new long[] {x.lid(5, 5, 1, 1, 0), x.lid(6, 5, 1, 1, 0), x.lid(5, 6, 1, 1, 0)}, 2, -2, -2);
    }
}
