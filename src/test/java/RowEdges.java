import java.util.Arrays;
import java.util.function.ToLongFunction;

/** Boundaries of the rows of numbers, the images, what is refused and counted: the terms, and promises 51 to 57. */
final class RowEdges {
    private static final String ROD = Edge.ROD;
    private static final String BAND = Edge.BAND;
    private static final String SMALL = "stakes 4;" + ROD + BAND + "slip 0 0 3;overlap 5;wide 50;";

    private RowEdges() {
    }

    static void all() {
        constants();
        sorts();
        numbers();
        numbersRefused();
        write();
        writeRefused();
        copy();
        copyRefused();
        images();
        imageParts();
        imageCalls();
        refusedChangeNothing();
        refusedTapeAndRows();
        codes();
        toldFirst();
        toldFirstOfRows();
        status();
        statusOfAll();
        count();
    }

    private static void says(int promise, String sentence) {
        Edge.says(promise, sentence);
    }

    private static void is(String what, long got, long want) {
        Edge.is(what, got, want);
    }

    private static void constants() {
        says(0, "The constants: NONE = -1: There is none.");
        is("NONE", NoKnot.NONE, -1);
    }

    // ---- promises 51 to 53

    private static void sorts() {
        says(0, "ROWS OF NUMBERS 0 to 3 are MISSING at first, or have 0 to 40 numbers of 8 bits (sort 0), 16 (1), 32 (2), 64 (3).");
        NoKnot x = new NoKnot();
        for (int row = 0; row < 4; row++) {
            Edge.each("row " + row, new long[] {x.write(row, 0, 1), x.nest(row, 0), x.numbers(row, 3 - row, 0), x.write(row, 0, 1), x.nest(row, 0),
                x.numbers(row, row, 40), x.write(row, 39, 1), x.write(row, 40, 1)}, -6, -6, 0, -7, 0, 0, 1, -7);
        }
        for (int sort = 0; sort < 4; sort++) {
            int bits = 8 << sort;
            long most = bits == 64 ? Long.MAX_VALUE : (1L << bits - 1) - 1;
            x.numbers(0, sort, 2);
            Edge.each("bounds of sort " + sort, new long[] {x.write(0, 0, most), x.write(0, 0, most + 1), x.write(0, 1, -most - 1), x.write(0, 1, -most - 2),
                x.write(0, 0, 0), x.write(0, 0, -1)}, most, -most - 1, -most - 1, most, 0, -1);
        }
        Edge.each("just beyond all bits", new long[] {cut(0, 255), cut(0, 256), cut(0, 257), cut(1, 65535), cut(1, 65536), cut(1, 65537), cut(2, 0xffffffffL),
            cut(2, 0x100000000L), cut(2, 0x100000001L), cut(3, 0x100000001L)}, -1, 0, 1, -1, 0, 1, -1, 0, 1, 0x100000001L);
    }

    private static long cut(int sort, long v) {
        NoKnot x = new NoKnot();
        x.numbers(2, sort, 1);
        return x.write(2, 0, v);
    }

    private static void numbers() {
        says(51, "A ROW OF NUMBERS has n numbers of a sort, all 0 (in place of another one): 0.");
        NoKnot x = new NoKnot();
        for (int n = 0; n <= 40; n++) {
            Edge.each("of " + n, new long[] {x.numbers(1, n & 3, n), x.plait(1, 2, 1), x.write(1, n - 1, 1), x.write(1, n, 1)}, 0, n, n == 0 ? -7 : 1, -7);
        }
        Check.row(x, 0, 3, 7, 8, 9);
        Edge.each("another one", new long[] {x.nest(0, 0), x.numbers(0, 0, 3), x.nest(0, 0), x.plait(0, 2, 1), x.write(0, 2, 300)}, 3, 0, -3, 3, 44);
        Edge.each("a longer one behind a shorter one", new long[] {x.numbers(0, 0, 1), x.numbers(0, 0, 3), x.plait(0, 2, 1), x.write(0, 0, 1), x.nest(0, 0)},
                0, 0, 3, 1, -3);
        Edge.each("the others stay", new long[] {x.numbers(0, 0, 5), x.write(2, 0, 0), x.write(1, 39, 5)}, 0, -6, 5);
    }

    private static void numbersRefused() {
        says(51, "-2: no such ROW, sort; -3, and the ROW stays: n is below 0 or above 40.");
        NoKnot x = Edge.row(7, 8);
        Edge.all("none such", -2, x.numbers(-1, 0, 0), x.numbers(4, 0, 0), x.numbers(0, -1, 0), x.numbers(0, 4, 0), x.numbers(4, 0, 41), x.numbers(0, 4, -1),
                x.numbers(Edge.FAR, 0, 0), x.numbers(Edge.DEEP, 0, 0), x.numbers(0, Edge.FAR, 0), x.numbers(0, Edge.DEEP, 0));
        Edge.all("n", -3, x.numbers(0, 0, -1), x.numbers(0, 0, 41), x.numbers(0, 3, Edge.FAR), x.numbers(0, 3, Edge.DEEP));
        Edge.each("counted, and it stays", new long[] {x.status(0), x.status(1), x.nest(0, 1), x.write(0, 0, 1L << 40)}, 10, 4, 2, 1L << 40);
        Edge.each("just can be", new long[] {x.numbers(0, 0, 0), x.numbers(3, 3, 40)}, 0, 0);
        Edge.each("MISSING stays MISSING", new long[] {x.numbers(1, 0, 41), x.write(1, 0, 0), x.numbers(1, 0, -1), x.nest(1, 0)}, -3, -6, -3, -6);
    }

    private static void write() {
        says(52, "Number i of a ROW OF NUMBERS is v, cut to its sort: as it is there.");
        NoKnot x = new NoKnot();
        x.numbers(0, 1, 3);
        Edge.each("three", new long[] {x.write(0, 0, 5), x.write(0, 2, 9), x.write(0, 1, 70000), x.nest(0, 4), x.nest(0, 5)}, 5, 9, 4464, 3, 2);
        Edge.each("another one in its place", new long[] {x.write(0, 1, 6), x.nest(0, 0), x.write(0, 1, 0), x.nest(0, 0)}, 6, 3, 0, -3);
        Edge.each("cut", new long[] {cut(0, 0x123456789abcdef0L), cut(1, 0x123456789abcdef0L), cut(2, 0x123456789abcdef0L), cut(3, 0x123456789abcdef0L)},
                -16, -8464, -1698898192, 0x123456789abcdef0L);
        Edge.each("the least and the greatest", new long[] {cut(0, Long.MIN_VALUE), cut(0, Long.MAX_VALUE), cut(2, Long.MIN_VALUE), cut(3, Long.MIN_VALUE)},
                0, -1, 0, Long.MIN_VALUE);
        // 261 is 5 by 8 bits: kept as it is answered.
        x.numbers(1, 0, 1);
        Edge.each("as it is there", new long[] {x.write(1, 0, 261), x.reach(1, 1, 1)}, 5, 4);
    }

    private static void writeRefused() {
        says(52, "-2: no such ROW; -6; -7.");
        NoKnot x = Edge.row(7, 8);
        Edge.all("none such", -2, x.write(-1, 0, 0), x.write(4, 0, 0), x.write(4, 9, 0), x.write(Edge.FAR, 0, 0), x.write(Edge.DEEP, 0, 0));
        Edge.all("MISSING", -6, x.write(1, 0, 0), x.write(3, -1, 0), x.write(2, 40, 0));
        Edge.all("no such number", -7, x.write(0, -1, 0), x.write(0, 2, 0), x.write(0, 40, 0), x.write(0, Edge.FAR, 0), x.write(0, Edge.DEEP, 0));
        Edge.each("counted", new long[] {x.status(0), x.status(3), x.status(4)}, 5, 3, 5);
        Edge.each("just there", new long[] {x.write(0, 0, 7), x.write(0, 1, 9), x.nest(0, 2)}, 7, 9, 2);
        x.numbers(1, 0, 0);
        is("none in none", x.write(1, 0, 0), -7);
    }

    /** Whether number k of what comes is 1: all others are made 1, and a WIDTH of 0 can't be. */
    private static boolean comes(String text, int b, int j, int i, int size, int k) {
        NoKnot x = Edge.told(text);
        x.numbers(0, 0, size);
        is("how many", x.copy(b, j, i, 0), size);
        for (int other = 0; other < size; other++) if (other != k) x.write(0, other, 1);
        return x.nest(0, 0) == size;
    }

    private static void copied(String text, int b, int j, int i, String want) {
        StringBuilder got = new StringBuilder();
        for (int k = 0; k < want.length(); k++) got.append(comes(text, b, j, i, want.length(), k) ? 'O' : 'U');
        is("from " + i + ": " + got + " is " + want, got.toString().equals(want) ? 1 : 0, 1);
    }

    private static void copy() {
        says(53, "What a weaver of a BAND does at CROSSINGS from i on (1 OVER, 0 UNDER) comes into all places of a ROW OF NUMBERS,"
                + " round its CROSSINGS if need be: how many.");
        // OOUOOU and, by the slip of weaver 1, OOOOUO.
        String text = "stakes 3;" + ROD + Edge.band(2, 2, 1, 2, 0, "0 0") + BAND + "slip 0 1 2;";
        copied(text, 0, 0, 0, "OOUOO");
        copied(text, 0, 0, 0, "OOUOOU");
        copied(text, 0, 0, 0, "OOUOOUO");
        copied(text, 0, 0, 5, "U");
        copied(text, 0, 0, 5, "UO");
        copied(text, 0, 1, 0, "OOOOUO");
        copied(text, 0, 1, 3, "OUOOOOOU");
        copied(text, 1, 0, 2, "OOUOOUOOUOOUOOUOOUOOUOOUOOUOOUOOUOOUOOUO");
        NoKnot x = Edge.told(text);
        x.numbers(0, 0, 0);
        is("no place", x.copy(0, 0, 0, 0), 0);
        x.numbers(3, 3, 40);
        Edge.each("forty", new long[] {x.copy(0, 0, 0, 3), x.plait(3, 3, 1)}, 40, 40);
    }

    private static void copyRefused() {
        says(53, "-2: no such CROSSING, ROW; -6.");
        NoKnot x = Edge.told("stakes 3;" + ROD + Edge.band(2, 1, 1, 2, 0, "0 0"));
        Check.row(x, 0, 0, 7, 8);
        Edge.all("none such", -2, x.copy(-1, 0, 0, 0), x.copy(1, 0, 0, 0), x.copy(0, -1, 0, 0), x.copy(0, 2, 0, 0), x.copy(0, 0, -1, 0), x.copy(0, 0, 6, 0),
                x.copy(0, 0, 0, -1), x.copy(0, 0, 0, 4), x.copy(1, 0, 0, 1), x.copy(0, 0, Edge.FAR, 0), x.copy(0, 0, 0, Edge.FAR), x.copy(Edge.DEEP, 0, 0, 0));
        Edge.all("MISSING", -6, x.copy(0, 0, 0, 1), x.copy(0, 1, 5, 3));
        Edge.each("counted, and it stays", new long[] {x.status(0), x.status(3), x.nest(0, 1)}, 12, 2, 2);
        Edge.each("just there", new long[] {x.copy(0, 1, 5, 0), x.copy(0, 0, 0, 0)}, 2, 2);
        x = new NoKnot();
        x.numbers(0, 0, 1);
        is("no BAND", x.copy(0, 0, 0, 0), -2);
    }

    // ---- promises 54 and 55

    /** Something of all that is kept, and 20 bytes on THE TAPE. */
    private static NoKnot rich() {
        NoKnot x = full();
        Check.feed(x, "wide 1;");
        return x;
    }

    private static NoKnot full() {
        NoKnot x = Edge.told(SMALL);
        Check.wish(x, "0.0.;");
        Check.print(x, "ou??;ou??;");
        x.ways(1, 5);
        x.ways(7, 255);
        Check.row(x, 0, 3, 5, 9);
        return x;
    }

    private static long[] seen(NoKnot x) {
        return new long[] {x.count(0), x.count(1), x.count(2), x.count(3), x.count(4), x.count(5), x.count(6), x.count(7), x.count(8), x.count(9),
            x.total(), x.cost(), x.rods(0), x.band(0, 6), x.lean(0), x.crossing(0, 0, 3, 1), x.hold(0), x.find(0), x.find(3), x.find(5), x.reads(0, 0),
            x.reads(1, 1), x.nearest(0, 0), x.nearest(0, 4), x.width(0), x.height(-1, true), x.taught(0), x.taught(1), x.taught(7), x.taught(-1),
            x.nest(0, 0), x.nest(1, 0), x.reach(0, 6, 2), x.fault(0), x.fault(1)};
    }

    private static void images() {
        says(0, "IMAGES 0 to 1: THE BASKET, the WISH, the PRINT, HANDS, as they were (none at first).");
        NoKnot x = rich();
        long[] before = seen(x);
        Edge.each("none at first", new long[] {x.restore(0), x.restore(1), x.image(0), x.restore(1)}, -5, -5, 0, -5);
        Edge.each("an IMAGE changes nothing", seen(x), before);
        x.basket(0);
        x.ways(1, -1);
        x.ways(2, 1);
        is("restore", x.restore(0), 0);
        Check.feed(x, "wide 1;");
        Edge.each("all as it was", seen(x), before);
    }

    private static void imageParts() {
        says(55, "All that is in an IMAGE is as it was: 0.");
        NoKnot x = full();
        x.image(0);
        Check.wish(x, "....;....;");
        Check.print(x, "????;");
        x.ways(1, 6);
        x.ways(7, -1);
        x.ways(0, 0);
        x.image(1);
        Edge.each("IMAGE 0", new long[] {x.restore(0), x.count(8), x.find(5), x.count(9), x.reads(0, 0), x.taught(0), x.taught(1), x.taught(7)},
                0, 1, 4, 2, full().reads(0, 0), -2, -1, 1);
        Edge.each("IMAGE 1", new long[] {x.restore(1), x.count(8), x.find(5), x.count(9), x.reads(0, 0), x.taught(0), x.taught(1), x.taught(7)},
                0, 2, 0, 1, 128, -1, 0, -2);
        x = full();
        x.image(0);
        Check.basket(x, "?");
        x.numbers(0, 0, 1);
        x.write(0, 0, 3);
        Check.feed(x, "x");
        Edge.each("what isn't in it", new long[] {x.restore(0), x.count(7), x.nest(0, 0), x.reach(0, 3, 1), x.status(5), x.fault(0)}, 0, 20, 1, 0, 1, 1);
        x = Edge.told("stakes 3;");
        x.image(0);
        Check.wish(x, "0..;");
        Check.print(x, "ouu;");
        x.ways(0, 3);
        Edge.each("no WISH, PRINT, HANDS", new long[] {x.find(5), x.reads(0, 0), x.restore(0), x.count(8), x.find(5), x.count(9), x.reads(0, 0), x.ways(0, -1)},
                6, 6, 0, -1, -5, -1, -5, -1);
        x = Edge.told("stakes 4;");
        Check.wish(x, "1.1.;.2.2;");
        x.image(0);
        Check.wish(x, "1.1.;.2.1;");
        Edge.each("KINDS of the WISH", new long[] {x.find(10), x.restore(0), x.find(10), x.find(11), x.find(5)}, -1, 0, 1, 2, 4);
        x = new NoKnot();
        x.image(1);
        Check.basket(x, SMALL);
        Edge.each("an empty one", new long[] {x.restore(1), x.count(0), x.count(2), x.count(4), x.count(5), x.count(6), x.total(), x.hold(0)},
                0, 0, 0, 2, 100, 0, 0, -2);
        says(55, "is as it was");
        x = Edge.told(SMALL);
        x.image(0);
        Check.basket(x, SMALL.replace("slip 0 0 3;", "") + BAND);
        Edge.each("slips", new long[] {x.crossing(0, 0, 3, 1), x.hold(0), x.restore(0), x.crossing(0, 0, 3, 1), x.hold(0), x.count(2)}, 0, 300, 0, 1, 200, 1);
    }

    private static void imageCalls() {
        says(54, "An IMAGE is made: 0. -2.");
        NoKnot x = Edge.told("stakes 3;");
        Edge.each("images", new long[] {x.image(-1), x.image(0), x.image(1), x.image(2), x.image(Edge.FAR), x.image(Edge.DEEP)}, -2, 0, 0, -2, -2, -2);
        Check.basket(x, "stakes 4;");
        Edge.each("in place of it", new long[] {x.image(0), x.restore(1), x.count(0), x.restore(0), x.count(0), x.restore(0), x.count(0)}, 0, 0, 3, 0, 4, 0, 4);
        says(55, "-2; -5: none was made.");
        x = new NoKnot();
        Edge.each("none", new long[] {x.restore(-1), x.restore(0), x.restore(1), x.restore(2), x.restore(Edge.FAR), x.restore(Edge.DEEP)},
                -2, -5, -5, -2, -2, -2);
        x.image(1);
        Edge.each("one", new long[] {x.restore(0), x.restore(1)}, -5, 0);
        Edge.each("counted", new long[] {x.status(0), x.status(2)}, 4, 3);
    }

    // ---- what is refused

    private static void changesNothing(String what, long want, ToLongFunction<NoKnot> call) {
        NoKnot x = rich();
        long[] before = seen(x);
        int refused = 0;
        int codes = 0;
        for (int k = 0; k < 6; k++) refused += x.status(k);
        is(what, call.applyAsLong(x), want);
        for (int k = 0; k < 6; k++) codes += x.status(k);
        is(what + " is counted once", codes - refused, 1);
        Edge.each(what + " changes nothing", seen(x), before);
    }

    private static void refusedChangeNothing() {
        says(0, "Refused calls answer by a code and change nothing but that they are counted:");
        changesNothing("rod", -2, x -> x.rod(1, 0));
        changesNothing("band", -2, x -> x.band(1, 0));
        changesNothing("lean", -100, x -> x.lean(1));
        changesNothing("crossing", -2, x -> x.crossing(0, 0, 4, 0));
        changesNothing("step", -3, x -> x.step(2, 1, 1, 0));
        changesNothing("floats", -3, x -> x.floats(0, 0));
        changesNothing("learner", -3, x -> x.learner(0, 1, 101, 0));
        changesNothing("find", -2, x -> x.find(6));
        changesNothing("reads", -2, x -> x.reads(2, 0));
        changesNothing("nearest", -2, x -> x.nearest(0, 6));
        changesNothing("hide", -2, x -> x.hide(0, 2));
        changesNothing("reach", -3, x -> x.reach(0, 0, 0));
        changesNothing("nest", -3, x -> x.nest(0, 1000));
        changesNothing("plait", -3, x -> x.plait(0, 9, 0));
        changesNothing("even", -6, x -> x.even(2, 0));
        changesNothing("gives", -3, x -> x.gives(-1));
        changesNothing("bowl", -100, x -> x.bowl(0, 0, 0));
        changesNothing("wander", -2, x -> x.wander(0, 3));
        changesNothing("closes", -3, x -> x.closes(0));
        changesNothing("border", -3, x -> x.border(5, 1, 0));
        changesNothing("ways", -3, x -> x.ways(1, 256));
        changesNothing("ways of no HAND", -2, x -> x.ways(8, 1));
        changesNothing("taught", -2, x -> x.taught(0));
        changesNothing("lid", -2, x -> x.lid(1, 0, 1, 1, 0));
        changesNothing("image", -2, x -> x.image(2));
        changesNothing("restore", -5, x -> x.restore(1));
    }

    private static void refusedTapeAndRows() {
        says(0, "change nothing but that they are counted:");
        changesNothing("basket", -3, x -> x.basket(21));
        changesNothing("wish", -3, x -> x.wish(-1));
        changesNothing("print", -3, x -> x.print(21));
        changesNothing("numbers", -3, x -> x.numbers(0, 0, 41));
        changesNothing("numbers of no sort", -2, x -> x.numbers(0, 4, 1));
        changesNothing("write", -7, x -> x.write(0, 2, 1));
        changesNothing("write of MISSING", -6, x -> x.write(1, 0, 1));
        changesNothing("copy", -2, x -> x.copy(0, 0, 4, 0));
        changesNothing("copy to MISSING", -6, x -> x.copy(0, 0, 0, 1));
        NoKnot x = new NoKnot();
        Check.feed(x, " ".repeat(500));
        Edge.each("feed", new long[] {x.feed(1, 2, 3, 4, 5), x.count(7), x.status(2), x.basket(500)}, -5, 500, 1, 0);
        // Of a text that is none THE TAPE is empty all the same.
        x = rich();
        long[] before = seen(x);
        Edge.each("a FAULT", new long[] {x.basket(3), x.status(5), x.fault(0)}, -32, 1, 2);
        Check.feed(x, "wide 1;");
        long[] behind = seen(x);
        Edge.each("all but the FAULT stays", Arrays.copyOf(behind, behind.length - 2), Arrays.copyOf(before, before.length - 2));
        Edge.each("a WISH that is none", new long[] {x.wish(3), x.status(5), x.count(7), x.count(8)}, -9, 2, 0, 1);
    }

    private static void codes() {
        says(0, "-2 there is none such; -3 a number can't be; -5 it can't be now; -6 a ROW OF NUMBERS is MISSING; -7 it has no such number;"
                + " -9 (-30 less the FAULT, too) a text.");
        NoKnot x = rich();
        Edge.each("codes", new long[] {x.rod(1, 0), x.gives(-1), x.restore(0), x.nest(1, 0), x.write(0, 2, 0), x.wish(1), x.basket(0)}, -2, -3, -5, -6, -7, -9, 0);
        Check.feed(x, "?");
        Edge.each("a FAULT", new long[] {x.basket(1), x.print(0)}, -31, -5);
        Edge.each("counted", new long[] {x.status(0), x.status(1), x.status(2), x.status(3), x.status(4), x.status(5)}, 1, 1, 2, 1, 1, 2);
    }

    private static void toldFirst() {
        says(0, "(Of several that which the call tells first.)");
        NoKnot x = new NoKnot();
        Edge.each("no stakes ahead of n", new long[] {x.wish(1), x.print(-1), x.wish(0)}, -5, -5, -5);
        Edge.each("no WISH, no PRINT ahead of what and side", new long[] {x.find(6), x.reads(2, 2), x.nearest(2, 6)}, -5, -5, -5);
        Edge.each("no stakes ahead of m, most, what", new long[] {x.border(0, 0, 3), x.border(1, 1, 3)}, -5, -5);
        Edge.each("the ROW, no stakes, MISSING", new long[] {x.closes(4), x.closes(0)}, -2, -5);
        x = rich();
        Edge.each("n ahead of the text", new long[] {x.wish(21), x.print(21), x.basket(21)}, -3, -3, -3);
        Edge.each("the BAND, what ahead of c", new long[] {x.learner(1, 0, 101, 0), x.learner(0, 0, 101, 3), x.learner(0, 0, 101, 0)}, -2, -2, -3);
        Edge.each("the BAND ahead of most", new long[] {x.floats(1, 0), x.floats(0, 0)}, -2, -3);
        Edge.each("m, most ahead of what", new long[] {x.border(0, 1, 3), x.border(1, 4, 3), x.border(1, 1, 3)}, -3, -3, -2);
        Edge.each("the HAND ahead of bits", new long[] {x.ways(8, 256), x.ways(0, 256)}, -2, -3);
        Edge.each("KINDS, what ahead of w, PLAY", new long[] {x.lid(1, 0, 0, 0, 0), x.lid(0, 0, 0, 0, 3), x.lid(0, 0, 0, 0, 0)}, -2, -2, -3);
    }

    private static void toldFirstOfRows() {
        says(0, "(Of several that which the call tells first.)");
        NoKnot x = rich();
        x.numbers(2, 0, 0);
        Edge.each("reach", new long[] {x.reach(4, 0, 3), x.reach(1, 0, 3), x.reach(1, 0, 0), x.reach(2, 0, 0)}, -2, -2, -6, -3);
        Edge.each("nest", new long[] {x.nest(4, -1), x.nest(1, -1), x.nest(0, -1)}, -2, -6, -3);
        Edge.each("plait", new long[] {x.plait(4, 1, 0), x.plait(1, 1, 2), x.plait(1, 1, 18), x.plait(0, 1, 18), x.plait(2, 2, 18)}, -2, -2, -6, -3, -1);
        Edge.each("even", new long[] {x.even(4, 8), x.even(1, 8), x.even(1, 7), x.even(2, 7)}, -2, -2, -6, -3);
        Edge.each("closes", new long[] {x.closes(4), x.closes(1), x.closes(2)}, -2, -6, -3);
        Edge.each("numbers", new long[] {x.numbers(4, 0, 41), x.numbers(0, 4, 41), x.numbers(0, 0, 41)}, -2, -2, -3);
        Edge.each("write", new long[] {x.write(4, 9, 0), x.write(1, 9, 0), x.write(0, 9, 0)}, -2, -6, -7);
        Edge.each("copy", new long[] {x.copy(1, 0, 0, 1), x.copy(0, 0, 0, 4), x.copy(0, 0, 0, 1)}, -2, -2, -6);
    }

    // ---- promises 56 and 57

    private static long[] counted(NoKnot x) {
        long[] out = new long[6];
        for (int what = 0; what < 6; what++) out[what] = x.status(what);
        return out;
    }

    private static void status() {
        says(56, "How many calls were refused by a code: -2 (what 0), -3 (1), -5 (2), -6 (3), -7 (4), by a text (5);"
                + " lean() and bowl() count as -2, lean, and -3, bowl. NONE for others.");
        NoKnot x = new NoKnot();
        Edge.each("none", counted(x), 0, 0, 0, 0, 0, 0);
        x.rod(0, 0);
        Edge.each("-2", counted(x), 1, 0, 0, 0, 0, 0);
        x.gives(-1);
        Edge.each("-3", counted(x), 1, 1, 0, 0, 0, 0);
        x.restore(0);
        Edge.each("-5", counted(x), 1, 1, 1, 0, 0, 0);
        x.nest(0, 0);
        Edge.each("-6", counted(x), 1, 1, 1, 1, 0, 0);
        x.numbers(0, 0, 0);
        x.write(0, 0, 0);
        Edge.each("-7", counted(x), 1, 1, 1, 1, 1, 0);
        Check.basket(x, "?");
        Edge.each("a FAULT", counted(x), 1, 1, 1, 1, 1, 1);
        Check.basket(x, "stakes 3;");
        Edge.each("no FAULT", counted(x), 1, 1, 1, 1, 1, 1);
        Check.wish(x, "?");
        Check.print(x, ".");
        Edge.each("-9", counted(x), 1, 1, 1, 1, 1, 3);
        x.lean(0);
        Edge.each("lean", counted(x), 2, 1, 1, 1, 1, 3);
        x.bowl(3, 0, 0);
        Edge.each("bowl of a MISSING row", counted(x), 2, 2, 1, 1, 1, 3);
        x.bowl(4, 0, 0);
        Edge.each("bowl of no row", counted(x), 2, 3, 1, 1, 1, 3);
        Edge.all("others", -1, x.status(-1), x.status(6), x.status(Edge.FAR), x.status(Edge.DEEP));
        Edge.each("they aren't refused", counted(x), 2, 3, 1, 1, 1, 3);
    }

    /** NONE, 0, and what a call answers of itself are no refusals. */
    private static void statusOfAll() {
        says(56, "NONE for others.");
        NoKnot x = rich();
        Check.row(x, 1, 0, 1, 1);
        Edge.all("NONE", -1, x.fault(2), x.seen(0, 0, 1, false), x.seam(0), x.turn(0), x.find(13), x.reach(0, 99, 0), x.plait(1, 3, 18), x.even(0, 7), x.taught(1),
                x.count(10), x.status(6), x.ways(0, -1), x.colour(0, 1, false), x.learner(0, 0, 0, 2));
        Edge.each("none of them", counted(x), 0, 0, 0, 0, 0, 0);
        for (int k = 0; k < 300; k++) x.rod(9, 9);
        is("three hundred", x.status(0), 300);
    }

    private static void count() {
        says(57, "0 stakes (0 without), 1 KINDS, 2 BANDS, 3 slips, 4 overlap, 5 wide, 6 LINES, 7 bytes on THE TAPE, 8 ROWS of the WISH (NONE),"
                + " 9 of the PRINT (NONE). NONE for others.");
        NoKnot x = rich();
        long[] got = new long[10];
        for (int what = 0; what < 10; what++) got[what] = x.count(what);
        Edge.each("all", got, 4, 1, 1, 1, 5, 50, 6, 20, 1, 2);
        x = new NoKnot();
        for (int what = 0; what < 10; what++) got[what] = x.count(what);
        Edge.each("without", got, 0, 0, 0, 0, 2, 100, 0, 0, -1, -1);
        Edge.all("others", -1, x.count(-1), x.count(10), x.count(Edge.FAR), x.count(Edge.DEEP));
        is("they aren't refused", x.status(0), 0);
        String most = "stakes 32;" + ROD + Edge.band(1, 1, 1, 1, 0, "0");
        Edge.each("ROWS", new long[] {Edge.told(most).count(8), eight(".").count(8), eight("?").count(9), eight("?").count(8)}, -1, 8, 8, -1);
    }

    private static NoKnot eight(String sign) {
        NoKnot x = Edge.told("stakes 32;");
        String text = (sign.repeat(32) + ";").repeat(8);
        if (sign.equals("?")) Check.print(x, text);
        else Check.wish(x, text);
        return x;
    }
}
