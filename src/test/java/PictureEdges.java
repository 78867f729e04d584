/** Boundaries of the pictures: what the terms say of them, and promises 24 to 28. */
final class PictureEdges {
    private PictureEdges() {
    }

    static void all() {
        rows();
        signsInRow();
        strokeBounds();
        beyondStrokes();
        strokeOrder();
        wishSigns();
        wishRounds();
        wishKinds();
        printSigns();
        printRounds();
        mistakes();
        otherSide();
        wish();
        wishRefused();
        find();
        findRefused();
        print();
        reads();
        nearest();
    }

    private static void says(int promise, String sentence) {
        Edge.says(promise, sentence);
    }

    private static void is(String what, long got, long want) {
        Edge.is(what, got, want);
    }

    private static NoKnot wished(int stakes, String text) {
        NoKnot x = Edge.told("stakes " + stakes + ";");
        is("wish " + text, Check.wish(x, text), text.length() / (stakes + 1));
        return x;
    }

    private static NoKnot printed(int stakes, String text) {
        NoKnot x = Edge.told("stakes " + stakes + ";");
        is("print " + text, Check.print(x, text), text.length() / (stakes + 1));
        return x;
    }

    /** What find() answers of the first STROKE, behind it how many. */
    private static long[] found(NoKnot x) {
        long[] out = new long[6];
        for (int what = 0; what < 6; what++) out[what] = x.find(what);
        return out;
    }

    private static long[] near(NoKnot x, int side) {
        long[] out = new long[6];
        for (int what = 0; what < 6; what++) out[what] = x.nearest(side, what);
        return out;
    }

    private static void none(int stakes, String text, boolean asPrint) {
        NoKnot x = Edge.told("stakes " + stakes + ";");
        is("no picture: " + text, asPrint ? Check.print(x, text) : Check.wish(x, text), -9);
        is("none there: " + text, asPrint ? x.count(9) : x.count(8), -1);
        is("THE TAPE is empty: " + text, x.count(7), 0);
    }

    /** What a STROKE makes, a sign for each KIND where it goes OVER. */
    private static String made(int n, int[] stroke, int rows, String over, char under) {
        StringBuilder s = new StringBuilder();
        for (int row = 0; row < rows; row++) {
            for (int k = 0; k < n; k++) s.append(Oracle.strokeOver(n, stroke, row, k) ? over.charAt(row % stroke[0]) : under);
            s.append(';');
        }
        return s.toString();
    }

    // ---- terms

    private static void rows() {
        says(0, "A PICTURE is a text: { ROW ; } of 1 to 8 ROWS,");
        for (int n : new int[] {3, 32}) {
            for (int many = 1; many <= 8; many++) {
                is("ROWS of a WISH", wished(n, (".".repeat(n) + ";").repeat(many)).count(8), many);
                is("ROWS of a PRINT", printed(n, ("?".repeat(n) + ";").repeat(many)).count(9), many);
            }
            none(n, "", false);
            none(n, "", true);
            none(n, (".".repeat(n) + ";").repeat(9), false);
            none(n, ("?".repeat(n) + ";").repeat(9), true);
        }
        none(3, ";", false);
        none(3, "...", false);
        none(3, "...;...", false);
        none(3, "???;???", true);
        none(3, "...;;", false);
    }

    private static void signsInRow() {
        says(0, "each with as many signs as there are STAKES (no blanks).");
        for (int n : new int[] {3, 4, 31, 32}) {
            wished(n, "0".repeat(n) + ";");
            printed(n, "o".repeat(n) + ";");
            none(n, "0".repeat(n - 1) + ";", false);
            none(n, "0".repeat(n + 1) + ";", false);
            none(n, "o".repeat(n - 1) + ";", true);
            none(n, "o".repeat(n + 1) + ";", true);
            none(n, "0".repeat(n) + ";" + "0".repeat(n - 1) + ";", false);
            none(n, "0".repeat(n - 1) + ";" + "0".repeat(n + 1) + ";", false);
            none(n, "o".repeat(n + 1) + ";" + "o".repeat(n - 1) + ";", true);
        }
        for (String blank : new String[] {" ", "\n"}) {
            none(3, blank + "000;", false);
            none(3, "000" + blank + ";", false);
            none(3, "000;" + blank, false);
            none(3, "0" + blank + "0;", false);
            none(3, "000;" + blank + "00;", false);
            none(3, "ooo;" + blank, true);
            none(3, "o" + blank + "o;", true);
        }
    }

    private static void strokeBounds() {
        says(0, "A STROKE: K (1 to 4), BEFORE, BEHIND (1 to 4 each), FROM, left (1) or not (0), without slips;");
        // By 32 stakes and 7 in all OOOUUUU begins at one STAKE alone, and goes on from weaver to weaver to one side.
        int[][] strokes = {{4, 3, 4, 31, 1}, {4, 4, 3, 31, 0}, {4, 4, 3, 0, 1}, {3, 3, 4, 0, 0}, {2, 4, 1, 31, 1}, {2, 1, 4, 16, 0}};
        for (int[] s : strokes) {
            int rows = 2 * s[0];
            NoKnot x = wished(32, made(32, s, rows, "0135", '.'));
            Edge.each("of two rounds", found(x), s[0], s[1], s[2], s[3], s[4], 1);
            x = printed(32, made(32, s, rows, "oooo", 'u'));
            Edge.each("printed", new long[] {x.nearest(0, 0), x.nearest(0, 1), x.nearest(0, 2), x.nearest(0, 3), x.nearest(0, 4), x.nearest(0, 5)},
                    0, s[0], s[1], s[2], s[3], s[4]);
        }
        // 2, 3 and 4 behind do it in one round.
        Edge.each("the last stake", found(wished(3, "..0;")), 1, 1, 2, 2, 0, 6);
        // Of one round OOUUUUOO and OOOUUUUO from elsewhere do it, too; of two rounds 4 and 4 alone.
        Edge.each("2 and 4 ahead of 4 and 4", found(wished(8, "0000....;")), 1, 2, 4, 1, 1, 6);
        Edge.each("4 and 4", found(wished(8, "0000....;0000....;")), 1, 4, 4, 0, 0, 2);
        Edge.each("4 and 4 from the last stake", found(wished(8, "000....0;000....0;")), 1, 4, 4, 2, 1, 2);
        // From 4, 12, 20, 28 and from 7, 15, 23, 31 to the left: the last STROKE of all is one of them.
        Edge.each("the last STROKE of 32 stakes", found(wished(32, "....0000".repeat(4) + ";")), 1, 4, 4, 4, 0, 8);
        NoKnot last = printed(32, "uuuuoooo".repeat(4) + ";");
        Edge.each("printed", new long[] {last.reads(0, 0), last.reads(0, 1), last.reads(1, 0), last.reads(1, 1)}, 8, 4, 8, 4);
        // 31 stakes: OU .. O to the right from 0, to the left from 30.
        Edge.each("31 stakes", found(wished(31, "0." .repeat(15) + "0;")), 1, 1, 1, 0, 0, 2);
        last = printed(31, "ou".repeat(15) + "o;");
        Edge.each("printed", new long[] {last.reads(0, 0), last.reads(0, 1), last.reads(1, 0), last.nearest(1, 0)}, 2, 1, 0, 1);
    }

    private static void beyondStrokes() {
        says(0, "(1 to 4 each)");
        Edge.each("5 before", found(wished(12, "00000.00000.;")), -1, -1, -1, -1, -1, 0);
        Edge.each("4 before", found(wished(10, "0000.0000.;")), 1, 4, 1, 0, 0, 4);
        Edge.each("5 behind", found(wished(12, "0.....0.....;")), -1, -1, -1, -1, -1, 0);
        Edge.each("4 behind", found(wished(10, "0....0....;")), 1, 1, 4, 0, 0, 4);
        Edge.each("five weavers", found(wished(10, "0....0....;.1....1...;..2....2..;...3....3.;....4....4;")), -1, -1, -1, -1, -1, 0);
        Edge.each("four weavers", found(wished(10, "0....0....;.1....1...;..2....2..;...3....3.;")), 4, 1, 4, 0, 0, 2);
    }

    private static void strokeOrder() {
        says(0, "STROKES are told in that order, K first.");
        // 1 and 1 by 4 stakes: one weaver goes the same way each round; two begin beside one another.
        Edge.each("K first", found(wished(4, "0.0.;0.0.;")), 1, 1, 1, 0, 0, 4);
        Edge.each("then BEFORE", found(wished(3, "000;")), 1, 3, 1, 0, 0, 48);
        Edge.each("then BEHIND", found(wished(4, "0...;")), 1, 1, 3, 0, 0, 4);
        Edge.each("then FROM", found(wished(4, ".0.0;")), 1, 1, 1, 1, 0, 4);
        Edge.each("FROM ahead of left", found(wished(3, "00.;")), 1, 1, 1, 0, 1, 10);
        Edge.each("right ahead of left", found(wished(3, "0..;")), 1, 1, 2, 0, 0, 6);
    }

    private static void wishSigns() {
        says(0, "A WISH has signs 0 to 5 and . (nothing told but the STAKE is seen):");
        for (int v = 0; v < 256; v++) {
            String text = "0" + (char) v + "0;";
            boolean sign = v >= '0' && v <= '5' || v == '.';
            if (sign) is("sign " + v, wished(3, text).count(8), 1);
            else none(3, text, false);
            is("a last sign other than ; " + v, Check.wish(Edge.told("stakes 3;"), "000" + (char) v), v == ';' ? 1 : -9);
        }
        is("KIND 0", wished(3, "0..;").find(10), 0);
        is("KIND 5", wished(3, "5..;").find(10), 5);
        Edge.each("the stake is seen", found(wished(3, "...;")), -1, -1, -1, -1, -1, 0);
    }

    private static void wishRounds() {
        says(0, "a STROKE MAKES it, if the number of ROWS is K times a number of rounds,");
        // Three stakes all over: 3 and 4 before do it in one round, from each STAKE, to both sides: 48.
        int[] first = {1, 2, 3, 4, -1, -1, -1, -1};
        for (int rows = 1; rows <= 8; rows++) {
            NoKnot x = wished(3, "000;".repeat(rows));
            Edge.each("ROWS " + rows, new long[] {x.find(0), x.find(5)}, first[rows - 1], rows <= 4 ? 48 : 0);
        }
        Edge.each("three weavers for six rows", found(wished(4, "1.1.;.2.2;3.3.;1.1.;.2.2;3.3.;")), 3, 1, 1, 0, 0, 4);
        Edge.each("not for five", found(wished(4, "1.1.;.2.2;3.3.;1.1.;.2.2;")), -1, -1, -1, -1, -1, 0);
        Edge.each("not for seven", found(wished(4, "1.1.;.2.2;3.3.;1.1.;.2.2;3.3.;1.1.;")), -1, -1, -1, -1, -1, 0);
        Edge.each("one weaver for seven", found(wished(4, "1.1.;".repeat(7))), 1, 1, 1, 0, 0, 4);
    }

    private static void wishKinds() {
        says(0, "and some KINDS, one for each weaver, are SEEN so outside (KINDS need not be told in THE BASKET;"
                + " a weaver that goes OVER nowhere: 0).");
        is("one sign is another KIND", wished(4, "1.2.;").find(5), 0);
        Edge.each("KIND 0 and another one", new long[] {wished(4, "0.1.;").find(5), wished(4, "1.0.;").find(5), wished(4, "0.0.;1.1.;").find(5),
            wished(4, "1.1.;0.0.;").find(5), wished(4, "0.0.;0.0.;").find(5)}, 0, 0, 0, 0, 4);
        is("one sign of the first round", wished(4, "1.2.;2.2.;").find(5), 0);
        is("one sign of the last round", wished(4, "2.2.;1.2.;").find(5), 0);
        is("one sign of the first round of two weavers", wished(4, "1.2.;.3.3;2.2.;.3.3;").find(5), 0);
        is("one KIND", wished(4, "2.2.;").find(5), 4);
        is("another KIND in the next round", wished(4, "1.1.;2.2.;").find(5), 0);
        is("of another weaver", wished(4, "1.1.;.2.2;").find(0), 2);
        is("the same in the next round", wished(4, "1.1.;.2.2;1.1.;.2.2;").find(0), 2);
        Edge.each("four KINDS, two of them alike", found(wished(4, "1.1.;.2.2;1.1.;.3.3;")), 4, 1, 1, 0, 0, 4);
        is("by two and by three the last row is of another KIND", wished(4, "1.1.;.2.2;1.1.;.2.2;1.1.;.3.3;").find(5), 0);
        is("one stake less", wished(4, "1...;.2.2;").find(5), 0);
        is("one stake more", wished(4, "1.11;.2.2;").find(5), 0);
        // Each weaver goes OVER at its first CROSSING, so none does nowhere.
        is("a row that nobody is seen in", wished(4, "1.1.;....;").find(5), 0);
    }

    private static void printSigns() {
        says(0, "A PRINT has o (OVER), u (UNDER), ? (any):");
        for (int v = 0; v < 256; v++) {
            String text = "o" + (char) v + "u;";
            if (v == 'o' || v == 'u' || v == '?') is("sign " + v, printed(3, text).count(9), 1);
            else none(3, text, true);
            is("a last sign other than ; " + v, Check.print(Edge.told("stakes 3;"), "???" + (char) v), v == ';' ? 1 : -9);
        }
        // Of 96 STROKES by 3 stakes: OUO (6 of them), OUU (18), OOU (24), OOO (48) from where they begin.
        is("over at STAKE 0", printed(3, "o??;").reads(0, 0), 4 + 6 + 16 + 48);
        is("under at STAKE 0", printed(3, "u??;").reads(0, 0), 2 + 12 + 8);
        is("any", printed(3, "???;").reads(0, 0), 96);
    }

    private static void printRounds() {
        says(0, "a STROKE FITS it, if the number of ROWS is likewise and all signs are so;");
        int[] weavers = {1, 2, 2, 3, 1, 3, 1, 3};
        for (int rows = 1; rows <= 8; rows++) {
            NoKnot x = printed(3, "???;".repeat(rows));
            Edge.each("ROWS " + rows, new long[] {x.reads(0, 0), x.reads(0, 1), x.reads(1, 0)}, 96L * weavers[rows - 1], 48L * weavers[rows - 1],
                    96L * weavers[rows - 1]);
        }
        is("all signs", printed(3, "ouu;").reads(0, 0), 6);
        is("none", printed(3, "uuu;").reads(0, 0), 0);
    }

    private static void mistakes() {
        says(0, "MISTAKES: how many signs but ? are otherwise.");
        Edge.each("none", near(printed(3, "ouu;"), 0), 0, 1, 1, 2, 0, 0);
        Edge.each("one", near(printed(3, "uuu;"), 0), 1, 1, 1, 2, 0, 0);
        Edge.each("but ?", near(printed(3, "?uu;"), 0), 0, 1, 1, 2, 0, 0);
        Edge.each("elsewhere", near(printed(3, "u?u;"), 0), 0, 1, 1, 2, 1, 0);
        Edge.each("? alone", near(printed(3, "???;"), 0), 0, 1, 1, 1, 0, 0);
        // 256 CROSSINGS of 1 and 4: over at 0, 5 .. 255.
        Edge.each("eight rows under", near(printed(32, ("u".repeat(32) + ";").repeat(8)), 0), 52, 1, 1, 4, 0, 0);
        // Of 4 and 1 in 64 CROSSINGS under at 4, 9 .. 59: 12 times four; in 256 at 51, in 128 at 25.
        Edge.each("eight rows over", near(printed(32, ("o".repeat(32) + ";").repeat(8)), 0), 48, 4, 4, 1, 0, 0);
    }

    private static void otherSide() {
        says(0, "From the other side (1): where the PRINT has o the weaver goes UNDER (u: OVER), and STAKE s is the sign at stakes less 1 less s.");
        // Over at STAKES 0 and 1, under at 2: OUO from 1, or from 0 to the left; OOU from 0, or from 1 to the left.
        NoKnot x = printed(3, "ouu;");
        Edge.each("ouu", new long[] {x.reads(0, 0), x.reads(0, 1), x.reads(1, 0), x.reads(1, 1)}, 6, 3, 10, 5);
        Edge.each("the first one", near(x, 1), 0, 1, 1, 1, 0, 1);
        x = printed(32, "u" + "?".repeat(31) + ";");
        Edge.each("STAKE 31 is the first sign", near(x, 1), 0, 1, 1, 1, 1, 0);
        x = printed(32, "o" + "?".repeat(31) + ";");
        Edge.each("under at STAKE 31", near(x, 1), 0, 1, 1, 1, 0, 0);
        Edge.each("over at STAKE 0", near(x, 0), 0, 1, 1, 1, 0, 0);
        x = printed(32, "?".repeat(31) + "o;");
        Edge.each("STAKE 0 is the last sign", near(x, 1), 0, 1, 1, 1, 1, 0);
        x = printed(4, "????;");
        Edge.each("any is any", new long[] {x.reads(0, 0), x.reads(1, 0)}, 128, 128);
        // OOUU and OOOO are wished: 2 and 1 makes OOUO and OUOO; nothing does it with one MISTAKE.
        x = printed(4, "oouu;uuuu;");
        Edge.each("rows stay as they are", near(x, 1), 2, 1, 2, 1, 0, 0);
    }

    // ---- promises 24 to 26

    private static void wish() {
        says(24, "The first n bytes of THE TAPE (which is empty then) are the WISH: how many ROWS.");
        String text = "0..;.0.;..0;";
        int[] want = {-9, -9, -9, -9, 1, -9, -9, -9, 2, -9, -9, -9, 3, -9};
        for (int n = 0; n < want.length; n++) {
            NoKnot x = Edge.told("stakes 3;");
            Check.feed(x, text);
            is("n " + n, x.wish(n), want[n]);
            Edge.each("behind " + n, new long[] {x.count(8), x.count(7), x.status(5)}, want[n] < 0 ? -1 : want[n], 0, want[n] < 0 ? 1 : 0);
        }
        is("500 bytes aren't one", Check.wish(Edge.told("stakes 3;"), "000;".repeat(125)), -9);
    }

    private static void wishRefused() {
        says(24, "-5: no stakes; -3: n (THE TAPE stays in both); -9: it is none (the one there was stays).");
        NoKnot x = Edge.told("wide 3;");
        Check.feed(x, "000;");
        Edge.all("no stakes, ahead of n", -5, x.wish(4), x.wish(0), x.wish(-1), x.wish(21));
        is("THE TAPE stays", x.count(7), 20);
        x = Edge.told("stakes 3;");
        Check.feed(x, "0..;");
        Edge.all("n", -3, x.wish(-1), x.wish(21), x.wish(Edge.FAR), x.wish(Edge.DEEP));
        is("THE TAPE stays", x.count(7), 20);
        is("just so", x.wish(4), 1);
        is("nothing there", x.wish(1), -3);
        is("nothing of nothing", x.wish(0), -9);
        is("the one there was stays", x.find(5), 6);
        is("none", Check.wish(x, "6..;"), -9);
        is("the one there was stays", x.find(5), 6);
        is("it is in its place", Check.wish(x, "...;...;"), 2);
        Edge.each("another one", new long[] {x.count(8), x.find(5)}, 2, 0);
        Edge.each("counted", new long[] {x.status(1), x.status(5)}, 5, 2);
    }

    private static void find() {
        says(25, "Of the first STROKE that MAKES the WISH, what 0: K, 1: BEFORE, 2: BEHIND, 3: FROM, 4: left, 5: how many STROKES MAKE it,"
                + " 10 + j: the KIND of weaver j.");
        NoKnot x = wished(4, "5.5.;.0.0;5.5.;.0.0;");
        // Four weavers of 5, 0, 5 and 0, too.
        Edge.each("two weavers", found(x), 2, 1, 1, 0, 0, 8);
        Edge.each("KINDS", new long[] {x.find(10), x.find(11), x.find(12), x.find(13)}, 5, 0, -1, -1);
        x = wished(4, "1.1.;.2.2;3.3.;.4.4;");
        Edge.each("four weavers", new long[] {x.find(0), x.find(10), x.find(11), x.find(12), x.find(13), x.find(14)}, 4, 1, 2, 3, 4, -2);
        x = wished(4, "1.1.;.2.2;3.3.;");
        Edge.each("three", new long[] {x.find(0), x.find(10), x.find(11), x.find(12), x.find(13), x.find(14)}, 3, 1, 2, 3, -1, -2);
        x = wished(4, "2.2.;");
        Edge.each("one", new long[] {x.find(0), x.find(9), x.find(10), x.find(11), x.find(12), x.find(13), x.find(14)}, 1, -2, 2, -1, -1, -1, -2);
        is("left", wished(3, "00.;").find(4), 1);
    }

    private static void findRefused() {
        says(25, "NONE: there is none (what 5: 0), no such weaver; -5: no WISH; -2: another what.");
        NoKnot x = wished(3, "...;");
        Edge.each("none", found(x), -1, -1, -1, -1, -1, 0);
        Edge.all("no KIND then", -1, x.find(10), x.find(11), x.find(12), x.find(13));
        is("NONE isn't counted", x.status(0), 0);
        Edge.all("another what", -2, x.find(-1), x.find(6), x.find(7), x.find(8), x.find(9), x.find(14), x.find(15), x.find(Edge.FAR), x.find(Edge.DEEP));
        is("counted", x.status(0), 9);
        x = Edge.told("stakes 3;");
        Edge.all("no WISH, ahead of what", -5, x.find(0), x.find(5), x.find(10), x.find(6), x.find(-1));
        Check.print(x, "ouo;");
        is("a PRINT is no WISH", x.find(0), -5);
        is("counted", x.status(2), 6);
    }

    private static void print() {
        says(26, "The PRINT, likewise. -5; -3; -9.");
        String text = "ouu;uou;uuo;";
        int[] want = {-9, -9, -9, -9, 1, -9, -9, -9, 2, -9, -9, -9, 3, -9};
        for (int n = 0; n < want.length; n++) {
            NoKnot x = Edge.told("stakes 3;");
            Check.feed(x, text);
            is("n " + n, x.print(n), want[n]);
            Edge.each("behind " + n, new long[] {x.count(9), x.count(7), x.status(5)}, want[n] < 0 ? -1 : want[n], 0, want[n] < 0 ? 1 : 0);
        }
        NoKnot x = Edge.told("wide 3;");
        Check.feed(x, "ouo;");
        Edge.all("no stakes, ahead of n", -5, x.print(4), x.print(0), x.print(-1), x.print(21));
        is("THE TAPE stays", x.count(7), 20);
        x = Edge.told("stakes 3;");
        Check.feed(x, "ouu;");
        Edge.all("n", -3, x.print(-1), x.print(21), x.print(Edge.FAR), x.print(Edge.DEEP));
        is("THE TAPE stays", x.count(7), 20);
        is("just so", x.print(4), 1);
        is("nothing there", x.print(1), -3);
        is("nothing of nothing", x.print(0), -9);
        is("a WISH's text is none", Check.print(x, "0..;"), -9);
        is("the one there was stays", x.reads(0, 0), 6);
        is("it is in its place", Check.print(x, "???;???;"), 2);
        Edge.each("another one, and no WISH by it", new long[] {x.count(9), x.count(8), x.reads(0, 0)}, 2, -1, 192);
        Edge.each("counted", new long[] {x.status(1), x.status(5)}, 5, 2);
    }

    // ---- promises 27 and 28

    private static void reads() {
        says(27, "How many STROKES FIT the PRINT from a side (0, 1), what 0: all, 1: those to the left. -5: no PRINT; -2: the side, what.");
        NoKnot x = printed(3, "ouu;");
        Edge.each("sides", new long[] {x.reads(-1, 0), x.reads(0, 0), x.reads(1, 0), x.reads(2, 0)}, -2, 6, 10, -2);
        Edge.each("whats", new long[] {x.reads(0, -1), x.reads(0, 0), x.reads(0, 1), x.reads(0, 2)}, -2, 6, 3, -2);
        Edge.all("none such", -2, x.reads(Edge.FAR, 0), x.reads(0, Edge.FAR), x.reads(Edge.DEEP, 0), x.reads(0, Edge.DEEP));
        is("counted", x.status(0), 8);
        x = printed(3, "uuu;");
        Edge.each("none", new long[] {x.reads(0, 0), x.reads(0, 1), x.reads(1, 0), x.reads(1, 1)}, 0, 0, 48, 24);
        x = printed(32, made(32, new int[] {4, 3, 4, 31, 1}, 8, "oooo", 'u'));
        Edge.each("one, to the left", new long[] {x.reads(0, 0), x.reads(0, 1)}, 1, 1);
        x = printed(32, made(32, new int[] {4, 3, 4, 31, 0}, 8, "oooo", 'u'));
        Edge.each("one, to the right", new long[] {x.reads(0, 0), x.reads(0, 1)}, 1, 0);
        x = Edge.told("stakes 3;");
        Edge.all("no PRINT, ahead of the side", -5, x.reads(0, 0), x.reads(2, 0), x.reads(0, 2), x.reads(-1, -1));
        Check.wish(x, "0..;");
        is("a WISH is no PRINT", x.reads(0, 0), -5);
        is("counted", x.status(2), 5);
    }

    private static void nearest() {
        says(28, "From a side, what 0: the fewest MISTAKES by any STROKE (for which ROWS are K times a number of rounds),"
                + " 1 to 5: K, BEFORE, BEHIND, FROM, left of the first such. -5; -2.");
        NoKnot x = printed(3, "ouu;");
        Edge.each("side 0", near(x, 0), 0, 1, 1, 2, 0, 0);
        Edge.each("side 1", near(x, 1), 0, 1, 1, 1, 0, 1);
        Edge.all("none such", -2, x.nearest(-1, 0), x.nearest(2, 0), x.nearest(0, -1), x.nearest(0, 6), x.nearest(1, 6), x.nearest(Edge.FAR, 0),
                x.nearest(0, Edge.FAR), x.nearest(0, Edge.DEEP));
        is("counted", x.status(0), 8);
        // Five rows of 0 before and 1 behind: one weaver alone; four would make them without a MISTAKE in four rows.
        x = printed(4, "oouu;uoou;uuoo;ouuo;oouu;");
        is("five rows: one weaver alone", x.nearest(0, 1), 1);
        x = printed(4, "oouu;uoou;uuoo;ouuo;");
        Edge.each("four rows", near(x, 0), 0, 2, 2, 4, 0, 0);
        // 3 and 4 from STAKE 1: OOOUUUUO and OOUUUUOO, over at 1 2 3 0 and at 1 2 7 0.
        Edge.each("none", near(printed(8, "oooouuuu;ooouuuuo;"), 0), 0, 1, 3, 4, 1, 0);
        Edge.each("one", near(printed(8, "oooouuuu;oooouuuo;"), 0), 1, 1, 3, 4, 1, 0);
        Edge.each("one, but ?", near(printed(8, "oooouuuu;ooo?uuuo;"), 0), 0, 1, 3, 4, 1, 0);
        x = Edge.told("stakes 3;");
        Edge.all("no PRINT, ahead of the side", -5, x.nearest(0, 0), x.nearest(2, 0), x.nearest(0, 6), x.nearest(-1, -1));
        is("counted", x.status(2), 4);
    }
}
