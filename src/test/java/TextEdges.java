/** Boundaries of the texts: what the terms say of THE BASKET, and promises 1 to 7. */
final class TextEdges {
    private static final String ROD = Edge.ROD;
    private static final String BAND = Edge.BAND;

    private TextEdges() {
    }

    static void all() {
        uses();
        longestText();
        lines();
        stakes();
        kinds();
        bands();
        bandNumbers();
        leans();
        slips();
        overlapAndWide();
        blanks();
        words();
        firstFault();
        leastFault();
        faultOne();
        faultTwo();
        faultThree();
        faultFour();
        newObject();
        feed();
        basketTakes();
        basketForgets();
        basketRefuses();
        basketFaults();
        fault();
        rod();
        band();
        lean();
    }

    private static void says(int promise, String sentence) {
        Edge.says(promise, sentence);
    }

    private static void is(String what, long got, long want) {
        Edge.is(what, got, want);
    }

    // ---- terms

    private static void uses() {
        says(0, "An object is used for at most 512 calls after it has been made; what later calls answer is free.");
        NoKnot x = new NoKnot();
        for (int k = 0; k < 510; k++) is("call " + k, x.ways(3, k & 255), k == 0 ? -1 : k - 1 & 255);
        is("the 511th", x.rod(0, 0), -2);
        is("the 512th", x.status(0), 1);
    }

    private static void longestText() {
        says(0, "THE BASKET is a TEXT of at most 500 bytes (empty at first): { LINE ; }");
        String full = "stakes 3;" + " ".repeat(482) + "wide 999;";
        NoKnot x = Edge.told(full);
        is("its last line at 500", x.count(5), 999);
        Check.feed(x, full);
        is("499 of 500", x.basket(499), -32);
        is("the end of 499", x.fault(1), 499);
        x = new NoKnot();
        is("no line at first", x.count(6), 0);
        is("an empty one", x.basket(0), 0);
        is("one line", Check.basket(x, "wide 1;"), 1);
        is("blanks alone are no line", Check.basket(x, " \n "), 0);
        Edge.faulty(";", 2, 0);
    }

    private static final String[] TOKENS = {"stakes", "3", ";", "rod", "2", "thick", "1", "shrinks", "0", "price", "0", ";",
        "band", "1", "before", "1", "behind", "1", "rounds", "1", "from", "0", "with", "0", "left", "out", "1", ";",
        "slip", "0", "0", "0", ";", "overlap", "1", ";", "wide", "1", ";"};

    private static void lines() {
        says(0, "LINE: stakes N | rod N thick N shrinks N price N | band N before N behind N rounds N from N with N { N }"
                + " [ left ] [ out N | in N ] | slip N N N | overlap N | wide N.");
        String text = "";
        for (int k = 0; k < TOKENS.length; k++) {
            String token = TOKENS[k];
            String rest = "";
            for (int r = k + 1; r < TOKENS.length; r++) rest += " " + TOKENS[r];
            boolean canBeLeft = token.equals("left");
            if (canBeLeft) Edge.told(text + rest);
            else Edge.faulty(text + rest, 2, text.length() + (k + 1 < TOKENS.length ? 1 : 0) + stillFine(k));
            text += (k > 0 ? " " : "") + token;
            if (!Character.isDigit(token.charAt(0))) Edge.faulty(text + " " + token + rest, 2, text.length() + 1);
            if (token.equals(";")) Edge.told(text);
            else Edge.faulty(text, 2, text.length());
        }
        for (int k = 0; k < TOKENS.length; k++) oneLetterOtherwise(k);
        Edge.faulty("slip 0 0 0;", 3, 5);
        String band = "stakes 3;" + ROD + BAND;
        Edge.told(band + "slip 0 0 0;");
        Edge.faulty(band + "slip 0 0 0 0;", 2, band.length() + 11);
        Edge.faulty("wide 1 1;", 2, 7);
        Edge.faulty("overlap 1 1;", 2, 10);
        String open = band.substring(0, band.length() - 1);
        Edge.told(open + " in 1;");
        Edge.told(open + " left in 1;");
        Edge.told(open + " out 1;");
        Edge.faulty(open + " in 1 out 1;", 2, open.length() + 6);
        Edge.faulty(open + " out 1 in 1;", 2, open.length() + 7);
        Edge.faulty(open + " out 1 left;", 2, open.length() + 7);
        Edge.faulty(open + " in 1 left;", 2, open.length() + 6);
        Edge.faulty(open + " in;", 2, open.length() + 3);
    }

    /** At both bounds and beside them; ahead is where the number stands. */
    private static void bound(String ahead, int low, int high, String behind) {
        Edge.told(ahead + low + behind);
        Edge.told(ahead + high + behind);
        if (low > 0) Edge.faulty(ahead + (low - 1) + behind, 3, ahead.length());
        Edge.faulty(ahead + (high + 1) + behind, 3, ahead.length());
        Edge.faulty(ahead + "9999" + behind, 3, ahead.length());
        Edge.faulty(ahead + "-1" + behind, 1, ahead.length());
    }

    private static void oneLetterOtherwise(int k) {
        String token = TOKENS[k];
        String text = "";
        for (int a = 0; a < k; a++) text += TOKENS[a] + " ";
        if (!Character.isLetter(token.charAt(0))) return;
        for (int c = 0; c < token.length(); c++) {
            char other = token.charAt(c) == 'z' ? 'a' : (char) (token.charAt(c) + 1);
            Edge.faulty(text + token.substring(0, c) + other + token.substring(c + 1), 2, text.length());
        }
        Edge.faulty(text + token.substring(1), 2, text.length());
        Edge.faulty(text + token.substring(0, token.length() - 1), 2, text.length());
        Edge.faulty(text + token + "s", 2, text.length());
    }

    /** One number of a slip less is seen at the sign alone. */
    private static int stillFine(int k) {
        return k >= 29 && k <= 31 ? 2 * (31 - k) : 0;
    }

    private static void stakes() {
        says(0, "stakes 3 to 32, once.");
        bound("stakes ", 3, 32, ";");
        is("3", Edge.told("stakes 3;").count(0), 3);
        is("32", Edge.told("stakes 32;").count(0), 32);
        Edge.faulty("stakes 3;stakes 3;", 4, 9);
        Edge.faulty("stakes 32;wide 5;stakes 4;", 4, 17);
    }

    private static void kinds() {
        says(0, "KINDS of rods are numbered from 0 on as they come, 6 at most: LENGTH 2 to 99, THICK 1 to 9, SHRINKS 0 to 50,"
                + " PRICE 0 to 99.");
        bound("rod ", 2, 99, " thick 1 shrinks 0 price 0;");
        bound("rod 2 thick ", 1, 9, " shrinks 0 price 0;");
        bound("rod 2 thick 1 shrinks ", 0, 50, " price 0;");
        bound("rod 2 thick 1 shrinks 0 price ", 0, 99, ";");
        StringBuilder text = new StringBuilder();
        for (int kind = 0; kind < 6; kind++) {
            text.append("rod ").append(94 + kind).append(" thick ").append(9 - kind).append(" shrinks ").append(45 + kind);
            text.append(" price ").append(kind * 19).append(";");
            NoKnot x = Edge.told(text.toString());
            is("KINDS", x.count(1), kind + 1);
            is("LENGTH", x.rod(kind, 0), 94 + kind);
            is("THICK", x.rod(kind, 1), 9 - kind);
            is("SHRINKS", x.rod(kind, 2), 45 + kind);
            is("PRICE", x.rod(kind, 3), kind * 19);
            is("the next one isn't there", x.rod(kind + 1, 0), -2);
            is("the first one stays", x.rod(0, 0), 94);
        }
        Edge.faulty(text + ROD, 4, text.length());
    }

    private static void bands() {
        says(0, "BANDS likewise, 8 at most (stakes were told by then):");
        Edge.faulty(ROD + BAND, 3, ROD.length());
        Edge.faulty(ROD + BAND + "stakes 3;", 3, ROD.length());
        Edge.told(ROD + "stakes 3;" + BAND);
        StringBuilder text = new StringBuilder("stakes 8;" + ROD);
        for (int b = 0; b < 8; b++) {
            text.append(Edge.band(1, 1, 1, b + 1, b, "0"));
            NoKnot x = Edge.told(text.toString());
            is("BANDS", x.count(2), b + 1);
            is("ROUNDS", x.band(b, 3), b + 1);
            is("FROM", x.band(b, 4), b);
            is("the next one isn't there", x.band(b + 1, 0), -2);
        }
        Edge.faulty(text + BAND, 4, text.length());
    }

    private static void bandNumbers() {
        says(0, "K weavers (1 to 4), BEFORE and BEHIND 1 to 4, ROUNDS 1 to 40, FROM a STAKE (0 to stakes less 1),"
                + " with K KINDS that were told;");
        String ahead = "stakes 32;" + ROD;
        Edge.told(ahead + Edge.band(1, 1, 1, 1, 0, "0"));
        Edge.told(ahead + Edge.band(4, 1, 1, 1, 0, "0 0 0 0"));
        Edge.faulty(ahead + Edge.band(0, 1, 1, 1, 0, "0"), 3, ahead.length() + 5);
        Edge.faulty(ahead + Edge.band(5, 1, 1, 1, 0, "0 0 0 0 0"), 3, ahead.length() + 5);
        bound(ahead + "band 1 before ", 1, 4, " behind 1 rounds 1 from 0 with 0;");
        bound(ahead + "band 1 before 1 behind ", 1, 4, " rounds 1 from 0 with 0;");
        bound(ahead + "band 1 before 1 behind 1 rounds ", 1, 40, " from 0 with 0;");
        bound(ahead + "band 1 before 1 behind 1 rounds 1 from ", 0, 31, " with 0;");
        bound("stakes 3;" + ROD + "band 1 before 1 behind 1 rounds 1 from ", 0, 2, " with 0;");
        String with = "band 1 before 1 behind 1 rounds 1 from 0 with ";
        bound(ahead + with, 0, 0, ";");
        bound(ahead + ROD.repeat(5) + with, 0, 5, ";");
        Edge.faulty("stakes 3;" + with + "0;", 3, 9 + with.length());
        for (int k = 1; k <= 4; k++) {
            String text = ahead + "band " + k + with.substring(6) + "0 ".repeat(k - 1);
            Edge.faulty(text + ";", 2, text.length());
            Edge.told(text + "0;");
            Edge.faulty(text + "0 0;", 2, text.length() + 2);
            Edge.faulty(text + "1;", 3, text.length());
        }
    }

    private static void leans() {
        says(0, "LEAN: out, in 0 to 9 (in: below 0; 0 without).");
        String open = "stakes 3;" + ROD + BAND.substring(0, BAND.length() - 1);
        bound(open + " out ", 0, 9, ";");
        bound(open + " in ", 0, 9, ";");
        is("without", Edge.told(open + ";").lean(0), 0);
        is("out 0", Edge.told(open + " out 0;").lean(0), 0);
        is("out 1", Edge.told(open + " out 1;").lean(0), 1);
        is("out 9", Edge.told(open + " out 9;").lean(0), 9);
        is("in 0", Edge.told(open + " in 0;").lean(0), 0);
        is("in 1", Edge.told(open + " in 1;").lean(0), -1);
        is("in 9", Edge.told(open + " left in 9;").lean(0), -9);
    }

    private static void slips() {
        says(0, "slip: a BAND that was told, a weaver of it (0 to K less 1), an index (0 to ROUNDS times stakes less 1);"
                + " 8 at most.");
        Edge.faulty("stakes 3;" + ROD + "slip 0 0 0;" + BAND, 3, 9 + ROD.length() + 5);
        String one = "stakes 3;" + ROD + BAND;
        bound(one + "slip ", 0, 0, " 0 0;");
        bound(one + "slip 0 ", 0, 0, " 0;");
        bound(one + "slip 0 0 ", 0, 2, ";");
        bound("stakes 3;" + ROD + BAND.repeat(8) + "slip ", 0, 7, " 0 0;");
        String two = "stakes 32;" + ROD + BAND + Edge.band(4, 1, 1, 40, 0, "0 0 0 0");
        bound(two + "slip 1 ", 0, 3, " 0;");
        bound(two + "slip 1 3 ", 0, 1279, ";");
        bound(two + "slip 0 0 ", 0, 31, ";");
        Edge.faulty(two + "slip 0 1 0;", 3, two.length() + 7);
        for (int many = 0; many <= 8; many++) {
            is("slips", Edge.told(one + "slip 0 0 2;".repeat(many)).count(3), many);
        }
        Edge.faulty(one + "slip 0 0 2;".repeat(9), 4, one.length() + 88);
        NoKnot x = Edge.told(two + "slip 1 3 1279;slip 0 0 31;slip 1 0 0;");
        Edge.each("of BANDS", new long[] {x.band(0, 6), x.band(1, 6)}, 1, 2);
        Edge.each("it is there", new long[] {x.crossing(0, 0, 30, 1), x.crossing(0, 0, 31, 1), x.crossing(1, 0, 0, 1), x.crossing(1, 3, 0, 1),
            x.crossing(1, 3, 1278, 1), x.crossing(1, 3, 1279, 1)}, 1, 1, 0, 1, 1, 1);
    }

    private static void overlapAndWide() {
        says(0, "overlap 0 to 20 (2 without), wide 1 to 999 (100 without): later ones count in place of earlier ones.");
        bound("overlap ", 0, 20, ";");
        bound("wide ", 1, 999, ";");
        NoKnot x = Edge.told("stakes 3;");
        is("overlap without", x.count(4), 2);
        is("wide without", x.count(5), 100);
        is("overlap 0", Edge.told("overlap 0;").count(4), 0);
        is("overlap 20", Edge.told("overlap 20;").count(4), 20);
        is("wide 1", Edge.told("wide 1;").count(5), 1);
        is("wide 999", Edge.told("wide 999;").count(5), 999);
        is("the later overlap", Edge.told("overlap 7;wide 3;overlap 0;").count(4), 0);
        is("the later wide", Edge.told("wide 999;overlap 3;wide 1;").count(5), 1);
        is("the latest wide", Edge.told("wide 1;wide 999;wide 500;").count(5), 500);
        is("without again", Edge.told("stakes 4;").count(4), 2);
    }

    /** One byte of each value between a word and the number behind it. */
    private static void blanks() {
        says(0, "TOKENS, as long as they go on, between them blanks (10, 32):");
        for (int v = 0; v < 256; v++) {
            String text = "stakes" + (char) v + "3;";
            if (v == 10 || v == 32) Edge.told(text);
            else if (v >= '0' && v <= '2') is("a digit more", Edge.told(text).count(0), 10 * (v - '0') + 3);
            else if (v >= '3' && v <= '9') Edge.faulty(text, 3, 6);
            else if (v >= 'a' && v <= 'z') Edge.faulty(text, 2, 0);
            else if (v == ';') Edge.faulty(text, 2, 6);
            else Edge.faulty(text, 1, 6);
        }
        Edge.told("\n stakes  \n\n 3 \n;\n");
        Edge.faulty("stake s 3;", 2, 0);
        Edge.faulty("stakes 3 2;", 2, 9);
        is("none is needed", Edge.told("stakes32;rod2thick1shrinks0price0;").count(0), 32);
    }

    private static void words() {
        says(0, "words (small letters), N (1 to 4 digits), the sign ;.");
        for (int v = 0; v < 256; v++) {
            String text = "" + (char) v;
            boolean begins = v >= 'a' && v <= 'z' || v >= '0' && v <= '9' || v == ';';
            if (v == 10 || v == 32) Edge.told(text);
            else Edge.faulty(text, begins ? 2 : 1, 0);
            if (v != ';' && v != ' ' && v != '\n') {
                boolean goesOn = v >= '0' && v <= '9';
                boolean can = begins && !goesOn;
                Edge.faulty("wide 999" + text, can ? 2 : 1 + (goesOn ? 2 : 0), goesOn ? 5 : 8);
            }
        }
        Edge.faulty("Stakes 3;", 1, 0);
        Edge.faulty("stakeS 3;", 2, 0);
        Edge.faulty("wide ;", 2, 5);
        is("1 digit", Edge.told("wide 7;").count(5), 7);
        is("2 digits", Edge.told("wide 07;").count(5), 7);
        is("3 digits", Edge.told("wide 999;").count(5), 999);
        is("4 digits", Edge.told("wide 0999;").count(5), 999);
        is("0 of 4 digits", Edge.told("overlap 0000;").count(4), 0);
        Edge.faulty("wide 1000;", 3, 5);
        Edge.faulty("wide 9999;", 3, 5);
        Edge.faulty("wide 10000;", 1, 5);
        Edge.faulty("wide 00999;", 1, 5);
    }

    // ---- FAULTS

    private static void firstFault() {
        says(0, "FAULTS, the first along the text,");
        Edge.faulty("?;wide 0;x;", 1, 0);
        Edge.faulty("wide 0;x;?;", 3, 5);
        Edge.faulty("x;?;wide 0;", 2, 0);
        Edge.faulty("stakes 3;stakes 4;?;wide 0;", 4, 9);
        Edge.faulty("wide 1;stakes 3;wide 1;?", 1, 23);
        Edge.faulty("wide 1000 ?", 3, 5);
        Edge.faulty("wide 999 ?", 1, 9);
    }

    private static void leastFault() {
        says(0, "of one TOKEN the least kind:");
        Edge.faulty("12345;", 1, 0);
        Edge.faulty("1234;", 2, 0);
        Edge.faulty("wide 99999;", 1, 5);
        Edge.faulty("wide 1 1000;", 2, 7);
        Edge.faulty("wide 1 12345;", 1, 7);
        Edge.faulty("wide band;", 2, 5);
        Edge.faulty("stakes 3 stakes 3;", 2, 9);
        Edge.faulty("stakes stakes 3;", 2, 7);
        Edge.faulty(ROD.repeat(6) + "wide rod;", 2, 6 * ROD.length() + 5);
        String bands = "stakes 3;" + ROD + BAND.repeat(8);
        Edge.faulty(bands + "wide band;", 2, bands.length() + 5);
        String slips = "stakes 3;" + ROD + BAND + "slip 0 0 0;".repeat(8);
        Edge.faulty(slips + "wide slip;", 2, slips.length() + 5);
        String with = "stakes 3;" + ROD + BAND.substring(0, BAND.length() - 1);
        Edge.faulty(with + " 1;", 2, with.length() + 1);
        Edge.faulty(with + " 00001;", 1, with.length() + 1);
    }

    private static void faultOne() {
        says(0, "1 no TOKEN begins so (5 digits and more: at their first).");
        Edge.faulty("stakes 3?", 1, 8);
        Edge.faulty("?", 1, 0);
        Edge.told("wide 0001;");
        Edge.faulty("wide 00001;", 1, 5);
        Edge.faulty("wide 000001;", 1, 5);
        Edge.faulty("wide " + "0".repeat(495), 1, 5);
        Edge.faulty("wide 4294967297;", 1, 5);
        Edge.faulty(" ".repeat(499) + "?", 1, 499);
    }

    private static void faultTwo() {
        says(0, "2 it can't stand there (the end: the text's length; fewer or more KINDS than weavers, too).");
        Edge.faulty("stakes", 2, 6);
        Edge.faulty("stakes 3", 2, 8);
        Edge.faulty("stakes 3 ", 2, 9);
        Edge.faulty("stakes 3\n\n", 2, 10);
        Edge.faulty(" ".repeat(496) + "wide", 2, 500);
        Edge.faulty(" ".repeat(495) + "wide ", 2, 500);
        Edge.faulty(" ".repeat(499) + "x", 2, 499);
        Edge.faulty("3 stakes;", 2, 0);
        String two = "stakes 3;" + ROD + ROD + "band 2 before 1 behind 1 rounds 1 from 0 with ";
        int at = two.length();
        Edge.faulty(two + "left;", 2, at);
        Edge.faulty(two + "0;", 2, at + 1);
        Edge.faulty(two + "0 left;", 2, at + 2);
        Edge.told(two + "0 1;");
        Edge.told(two + "0 1 left;");
        Edge.faulty(two + "0 1 0;", 2, at + 4);
        Edge.faulty(two + "0 1 5;", 2, at + 4);
        Edge.faulty(two + "0 1 0 1 0;", 2, at + 4);
        Edge.faulty(two + "0 2 0;", 3, at + 2);
    }

    private static void faultThree() {
        says(0, "3 an N out of its bounds (a KIND, a BAND that wasn't told); the word band ahead of stakes.");
        Edge.faulty("overlap 21;", 3, 8);
        Edge.told("overlap 20;");
        Edge.faulty("band", 3, 0);
        Edge.faulty("band;stakes 3;", 3, 0);
        Edge.faulty("stakes 3;band;", 2, 13);
        Edge.faulty("stakes 3;band 1 before 1 behind 1 rounds 1 from 0 with 0;", 3, 55);
        String one = "stakes 3;" + ROD + BAND;
        Edge.faulty(one + "slip 1 0 0;", 3, one.length() + 5);
        Edge.faulty(one + "slip 1 0 0;" + BAND, 3, one.length() + 5);
        Edge.told(one + BAND + "slip 1 0 0;");
        Edge.faulty("slip 0 0 0;", 3, 5);
    }

    private static void faultFour() {
        says(0, "4 the first TOKEN of a second stakes, a 7th rod, a 9th band, a 9th slip.");
        Edge.faulty("stakes 3;stakes", 4, 9);
        Edge.faulty("stakes 3;\nstakes 2;", 4, 10);
        Edge.told(ROD.repeat(6));
        Edge.faulty(ROD.repeat(6) + "rod", 4, 6 * ROD.length());
        Edge.faulty(ROD.repeat(6) + "wide 1; rod 1", 4, 6 * ROD.length() + 8);
        String bands = "stakes 3;" + ROD + BAND.repeat(8);
        Edge.told(bands);
        Edge.faulty(bands + "band", 4, bands.length());
        Edge.faulty(bands + " band 9", 4, bands.length() + 1);
        String slips = "stakes 3;" + ROD + BAND + "slip 0 0 0;".repeat(8);
        Edge.told(slips);
        Edge.faulty(slips + "slip", 4, slips.length());
        Edge.faulty(slips + "\nslip 9", 4, slips.length() + 1);
    }

    // ---- promises 1 to 7

    private static void newObject() {
        says(1, "An empty BASKET; no WISH, PRINT.");
        NoKnot x = new NoKnot();
        Edge.each("count", new long[] {x.count(0), x.count(1), x.count(2), x.count(3), x.count(4), x.count(5), x.count(6),
            x.count(7), x.count(8), x.count(9)}, 0, 0, 0, 0, 2, 100, 0, 0, -1, -1);
        is("no CROSSINGS", x.total(), 0);
        is("no WISH", x.find(5), -5);
        is("no PRINT", x.reads(0, 0), -5);
        is("no KIND", x.rod(0, 0), -2);
        is("no BAND", x.band(0, 0), -2);
        x = Edge.told("stakes 3;");
        is("a WISH", Check.wish(x, "0.0;"), 1);
        is("a PRINT", Check.print(x, "ouo;"), 1);
        is("of another object", new NoKnot().count(8), -1);
    }

    private static void feed() {
        says(2, "Twenty bytes come behind those on THE TAPE, the highest of each int first: how many it has.");
        NoKnot x = new NoKnot();
        is("none", x.count(7), 0);
        is("twenty", x.feed(0x20202020, 0x20202020, 0x20202020, 0x20202077, 0x69646520), 20);
        is("as many", x.count(7), 20);
        is("forty", x.feed(0x3132333b, 0x20202020, 0x20202020, 0x20202020, 0x2020203f), 40);
        is("up to the sign behind 123", x.basket(24), 1);
        is("123", x.count(5), 123);
        is("a new one", x.feed(0x77696465, 0x20373b6f, 0x7665726c, 0x61702033, 0x3b3f3f3f), 20);
        is("17 of 20", x.basket(17), 2);
        is("wide", x.count(5), 7);
        is("overlap", x.count(4), 3);
        x.feed(0x80000000, 0, 0, 0, 0);
        is("a byte of 128", x.basket(1), -31);
        x.feed(0x0a0a0a0a, 0x0a0a0a0a, 0x0a0a0a0a, 0x0a0a0a0a, 0x0a0a0a7f);
        is("19 blanks and 127", x.basket(20), -31);
        is("its place", x.fault(1), 19);

        says(2, "-5: it would have more than 500.");
        x = new NoKnot();
        for (int k = 1; k <= 24; k++) is("feed", x.feed(0x20202020, 0x20202020, 0x20202020, 0x20202020, 0x20202020), 20 * k);
        is("480 and 20", x.feed(0x20202020, 0x20202020, 0x20202020, 0x20202020, 0x20202020), 500);
        is("500 and 20", x.feed(-1, -1, -1, -1, -1), -5);
        is("THE TAPE stays", x.count(7), 500);
        is("counted", x.status(2), 1);
        is("none of them came", x.basket(500), 0);
        is("from the beginning", x.feed(-1, -1, -1, -1, -1), 20);
    }

    private static void basketTakes() {
        says(3, "The first n bytes of THE TAPE (which is empty then) are THE BASKET: how many LINES");
        String text = "stakes 3;wide 5;";
        int[] want = {0, -32, -32, -32, -32, -32, -32, -32, -32, 1, -32, -32, -32, -32, -32, -32, 2, 2, 2, 2, 2};
        for (int n = 0; n <= 20; n++) {
            NoKnot x = new NoKnot();
            Check.feed(x, text);
            is("n " + n, x.basket(n), want[n]);
            is("LINES of " + n, x.count(6), Math.max(0, want[n]));
            is("THE TAPE is empty behind " + n, x.count(7), 0);
            is("from the beginning behind " + n, Check.feed(x, text), 20);
        }
        NoKnot x = Edge.told("stakes 4;" + ROD + BAND + "slip 0 0 0;overlap 3;wide 7;");
        is("LINES", x.count(6), 6);
        is("a shorter one", Check.basket(x, "wide 8;"), 1);
        Edge.each("all that was is gone", new long[] {x.count(0), x.count(1), x.count(2), x.count(3), x.count(4), x.count(5)},
                0, 0, 0, 0, 2, 8);
        x = Edge.told("overlap 3;wide 7;");
        Check.basket(x, "overlap 4;wide 8;?");
        is("nothing is told", Check.basket(x, "stakes 3;"), 1);
        Edge.each("as without", new long[] {x.count(4), x.count(5)}, 2, 100);
        // OUO, and then OOU: what was asked of the one ahead is no matter.
        x = Edge.told("stakes 3;" + ROD + BAND);
        is("HOLD", x.hold(0), 200);
        Check.basket(x, "stakes 3;" + ROD + BAND.replace("before 1", "before 2"));
        Edge.each("of the new one", new long[] {x.hold(0), x.crossing(0, 0, 1, 1), x.crossing(0, 0, 2, 1)}, 100, 1, 0);
        says(3, "(that there was stays with a FAULT).");
        x = Edge.told("stakes 4;" + ROD + BAND + "slip 0 0 3;overlap 3;wide 7;");
        for (String bad : new String[] {"?", "x", "stakes 2;", "stakes 5;" + ROD + ROD + BAND + "stakes 5;"}) {
            is("a FAULT", Check.basket(x, bad) < -30 ? 1 : 0, 1);
            Edge.each("it stays", new long[] {x.count(0), x.count(1), x.count(2), x.count(3), x.count(4), x.count(5), x.count(6),
                x.count(7), x.crossing(0, 0, 2, 1), x.crossing(0, 0, 3, 1)}, 4, 1, 1, 1, 3, 7, 6, 0, 1, 1);
        }
    }

    private static void basketForgets() {
        says(3, "The WISH and the PRINT are gone then.");
        for (String text : new String[] {"", "stakes 3;", "stakes 3;wide 1;"}) {
            NoKnot x = Edge.told("stakes 3;");
            Check.wish(x, "0.0;");
            Check.print(x, "ouo;");
            is("the WISH", x.count(8), 1);
            is("the PRINT", x.count(9), 1);
            is("basket", Check.basket(x, text) >= 0 ? 1 : 0, 1);
            Edge.all("gone", -1, x.count(8), x.count(9));
            Edge.all("none", -5, x.find(0), x.reads(0, 0), x.nearest(0, 0));
        }
        NoKnot x = Edge.told("stakes 3;");
        Check.wish(x, "0.0;");
        Check.print(x, "ouo;");
        is("a FAULT", Check.basket(x, "?"), -31);
        Check.feed(x, "stakes 3;");
        is("a number that can't be", x.basket(21), -3);
        Edge.all("a refused call leaves them", 1, x.count(8), x.count(9));
    }

    private static void basketRefuses() {
        says(3, "-3: n is below 0 or above what there is (THE TAPE stays);");
        NoKnot x = new NoKnot();
        is("above nothing", x.basket(1), -3);
        is("nothing", x.basket(0), 0);
        is("below 0", x.basket(-1), -3);
        Check.feed(x, "stakes 3;");
        Edge.all("can't be", -3, x.basket(-1), x.basket(21), x.basket(Edge.FAR), x.basket(Edge.DEEP), x.basket(500));
        is("THE TAPE stays", x.count(7), 20);
        is("counted", x.status(1), 7);
        is("just all of it", x.basket(20), 1);
        Check.feed(x, "x".repeat(500));
        is("above 500", x.basket(501), -3);
        is("just 500", x.basket(500), -32);
        is("just empty", x.basket(1), -3);
    }

    private static void basketFaults() {
        says(3, "-30 less the FAULT.");
        String[] texts = {"?", "x", "wide 0;", "stakes 3;stakes 3;"};
        for (int kind = 1; kind <= 4; kind++) is("FAULT " + kind, Check.basket(new NoKnot(), texts[kind - 1]), -30 - kind);
        is("none", Check.basket(new NoKnot(), "wide 1;"), 1);
    }

    private static void fault() {
        says(4, "Of the latest basket() that was read, what 0: its FAULT (0), 1: its place (NONE). NONE for others.");
        NoKnot x = new NoKnot();
        Edge.each("none was read", new long[] {x.fault(-1), x.fault(0), x.fault(1), x.fault(2)}, -1, 0, -1, -1);
        Check.basket(x, "?");
        Edge.each("at 0", new long[] {x.fault(-1), x.fault(0), x.fault(1), x.fault(2)}, -1, 1, 0, -1);
        Check.basket(x, " ".repeat(497) + "x y");
        Edge.each("at 497", new long[] {x.fault(0), x.fault(1)}, 2, 497);
        is("not read", x.basket(1), -3);
        is("not read", x.basket(-1), -3);
        Edge.each("of the latest that was read", new long[] {x.fault(0), x.fault(1)}, 2, 497);
        Check.basket(x, "stakes 33;");
        Edge.each("the latest", new long[] {x.fault(0), x.fault(1)}, 3, 7);
        is("no FAULT", x.basket(0), 0);
        Edge.each("no FAULT", new long[] {x.fault(0), x.fault(1)}, 0, -1);
        Edge.all("others", -1, x.fault(Edge.FAR), x.fault(Edge.DEEP), x.fault(3));
        Edge.each("NONE is no refusal", new long[] {x.status(0), x.status(1), x.status(5)}, 0, 2, 3);
    }

    private static void rod() {
        says(5, "Of a KIND, what 0: LENGTH, 1: THICK, 2: SHRINKS, 3: PRICE.");
        NoKnot x = Edge.told("rod 2 thick 9 shrinks 0 price 99;" + ROD.repeat(4) + "rod 99 thick 1 shrinks 50 price 0;");
        Edge.each("the first", new long[] {x.rod(0, 0), x.rod(0, 1), x.rod(0, 2), x.rod(0, 3)}, 2, 9, 0, 99);
        Edge.each("the last", new long[] {x.rod(5, 0), x.rod(5, 1), x.rod(5, 2), x.rod(5, 3)}, 99, 1, 50, 0);
        says(5, "-2: no such KIND, what.");
        Edge.all("none such", -2, x.rod(-1, 0), x.rod(6, 0), x.rod(0, -1), x.rod(0, 4), x.rod(5, 4), x.rod(5, -1),
                x.rod(Edge.FAR, 0), x.rod(Edge.DEEP, 0), x.rod(0, Edge.FAR), x.rod(0, Edge.DEEP), x.rod(1 << 30, 0));
        is("counted", x.status(0), 11);
        x = Edge.told(ROD);
        Edge.each("one KIND", new long[] {x.rod(0, 0), x.rod(1, 0)}, 2, -2);
        is("no KIND", new NoKnot().rod(0, 0), -2);
    }

    private static void band() {
        says(6, "Of a BAND, what 0: K, 1: BEFORE, 2: BEHIND, 3: ROUNDS, 4: FROM, 5: 1 left, else 0, 6: how many slips,"
                + " 10 + j: weaver j's KIND.");
        NoKnot x = Edge.told("stakes 32;" + ROD.repeat(6) + Edge.band(4, 4, 4, 40, 31, "5 0 5 1 left") + BAND
                + "slip 0 3 1279;slip 0 0 0;slip 0 3 1279;");
        long[] first = new long[7];
        long[] second = new long[7];
        for (int what = 0; what < 7; what++) {
            first[what] = x.band(0, what);
            second[what] = x.band(1, what);
        }
        Edge.each("the greatest", first, 4, 4, 4, 40, 31, 1, 3);
        Edge.each("the least", second, 1, 1, 1, 1, 0, 0, 0);
        Edge.each("KINDS", new long[] {x.band(0, 10), x.band(0, 11), x.band(0, 12), x.band(0, 13), x.band(1, 10)}, 5, 0, 5, 1, 0);
        is("eight slips", Edge.told("stakes 3;" + ROD + BAND + "slip 0 0 1;".repeat(8)).band(0, 6), 8);
        says(6, "-2.");
        Edge.all("none such", -2, x.band(-1, 0), x.band(2, 0), x.band(0, -1), x.band(0, 7), x.band(0, 8), x.band(0, 9), x.band(0, 14),
                x.band(1, 11), x.band(1, 9), x.band(Edge.FAR, 0), x.band(Edge.DEEP, 0), x.band(0, Edge.FAR), x.band(0, Edge.DEEP));
        is("counted", x.status(0), 13);
        x = Edge.told("stakes 3;" + ROD + BAND.repeat(8));
        Edge.each("eight", new long[] {x.band(7, 0), x.band(8, 0)}, 1, -2);
        is("no BAND", new NoKnot().band(0, 0), -2);
    }

    private static void lean() {
        says(7, "LEAN of a BAND. -100: none such.");
        NoKnot x = Edge.told("stakes 3;" + ROD + BAND.repeat(7) + BAND.replace(";", " in 2;"));
        Edge.each("bands", new long[] {x.lean(-1), x.lean(0), x.lean(7), x.lean(8)}, -100, 0, -2, -100);
        Edge.all("far off", -100, x.lean(Edge.FAR), x.lean(Edge.DEEP), new NoKnot().lean(0));
        is("as -2", x.status(0), 4);
    }
}
