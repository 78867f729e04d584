import java.util.Random;

/** Many baskets by chance (always the same ones), every question asked of the program and of the Oracle. */
public final class OracleTest {
    private static final Check CHECK = new Check("OracleTest");
    private static final Random RANDOM = new Random(20261118);

    public static void main(String[] args) {
        for (int k = 0; k < 220; k++) {
            String text = text(k % 10 == 9);
            askAll(text);
        }
        for (int k = 0; k < 60; k++) {
            wishes();
            prints();
        }
        for (int k = 0; k < 300; k++) {
            rowsOfNumbers();
            hands();
        }
        for (int k = 0; k < 40; k++) evens();
        for (int k = 0; k < 600; k++) bowls(k);
        for (int k = 0; k < 20; k++) faults();
        steps();
        CHECK.end();
    }

    private static int below(int n) {
        return RANDOM.nextInt(n);
    }

    private static int from(int low, int high) {
        return low + RANDOM.nextInt(high - low + 1);
    }

    private static String text(boolean large) {
        StringBuilder s = new StringBuilder();
        int stakes = large ? from(20, 32) : from(3, 12);
        int kinds = from(1, 4);
        if (below(3) == 0) s.append("wide ").append(from(1, 60)).append(";");
        s.append("stakes ").append(stakes).append(";");
        for (int k = 0; k < kinds; k++) {
            s.append("rod ").append(from(2, below(2) == 0 ? 12 : 99)).append(" thick ").append(from(1, 9));
            s.append(" shrinks ").append(from(0, 50)).append(" price ").append(from(0, 9)).append(";");
        }
        int bands = from(0, 3);
        for (int b = 0; b < bands; b++) {
            int k = from(1, 4);
            int rounds = large ? from(1, 12) : from(1, 5);
            s.append("band ").append(k).append(" before ").append(from(1, 4)).append(" behind ").append(from(1, 4));
            s.append(" rounds ").append(rounds).append(" from ").append(below(stakes)).append(" with");
            for (int j = 0; j < k; j++) s.append(' ').append(below(kinds));
            if (below(2) == 0) s.append(" left");
            if (below(2) == 0) s.append(below(2) == 0 ? " out " : "\nin ").append(from(0, 9));
            s.append(";");
            for (int slips = below(4); slips > 0 && below(2) == 0; slips--) {
                s.append("slip ").append(b).append(' ').append(below(k)).append(' ').append(below(rounds * stakes)).append(';');
            }
        }
        if (below(2) == 0) s.append("overlap ").append(from(0, 20)).append(";");
        return s.toString();
    }

    private static void askAll(String text) {
        if (text.length() > 500) return;
        Oracle o = Oracle.of(text);
        NoKnot x = new NoKnot();
        String in = " of " + text;
        CHECK.is("basket" + in, Check.basket(x, text), o.fault == 0 ? o.lines : -30 - o.fault);
        CHECK.is("fault 0" + in, x.fault(0), o.fault);
        CHECK.is("fault 1" + in, x.fault(1), o.place);
        if (o.fault != 0) return;
        int[] counts = {o.stakes, o.kinds.size(), o.bands.size(), o.slips.size(), o.overlap, o.wide, o.lines, 0, -1, -1};
        for (int k = 0; k < counts.length; k++) CHECK.is("count " + k + in, x.count(k), counts[k]);
        CHECK.is("total" + in, x.total(), o.all.size());
        CHECK.is("cost" + in, x.cost(), o.cost());
        CHECK.is("loose" + in, x.loose(), o.loose());
        CHECK.is("height all" + in, x.height(-1, true), o.height(-1, true));
        CHECK.is("height all wet" + in, x.height(-1, false), o.height(-1, false));
        CHECK.is("width" + in, x.width(-1), o.wide);
        askKinds(x, o, in);
        askCrossings(x, o, in);
        int bits = 0;
        int load = from(0, 20000);
        for (int b = 0; b < o.bands.size(); b++) {
            askBand(x, o, b, in);
            askStakes(x, o, b, in);
            if (o.hold(b) < load) bits |= 1 << b;
        }
        CHECK.is("gives" + in, x.gives(load), bits);
        int seed = RANDOM.nextInt();
        for (int what = 0; what < 3; what++) CHECK.is("wander " + seed + in, x.wander(seed, what), o.wander(seed)[what]);
        askBorders(x, o, in);
    }

    private static void askKinds(NoKnot x, Oracle o, String in) {
        for (int k = 0; k < o.kinds.size(); k++) {
            for (int what = 0; what < 4; what++) CHECK.is("rod" + in, x.rod(k, what), o.kinds.get(k)[what]);
            CHECK.is("rods " + k + in, x.rods(k), o.rods(k));
            CHECK.is("waste " + k + in, x.waste(k), o.waste(k));
            for (int tries = 0; tries < 3; tries++) {
                int rim = below(o.kinds.size());
                int w = from(1, below(2) == 0 ? 1500 : 60);
                int play = from(1, below(2) == 0 ? 99 : 3);
                int[] lid = o.lid(k, rim, w, play);
                for (int what = 0; what < 3; what++) {
                    CHECK.is("lid " + k + " " + rim + " " + w + " " + play + in, x.lid(k, rim, w, play, what), lid[what]);
                }
            }
        }
    }

    private static void askCrossings(NoKnot x, Oracle o, String in) {
        for (Oracle.Cross c : o.all) {
            if (o.all.size() > 600 && below(20) != 0) continue;
            String at = c.b + " " + c.j + " " + c.i + in;
            int[] want = {c.stake, c.over ? 1 : 0, c.rod, c.along, c.rod % 2 == 0 ? 1 : 0, c.when};
            for (int what = 0; what < 6; what++) {
                CHECK.is("crossing " + what + " at " + at, x.crossing(c.b, c.j, c.i, what), want[what]);
            }
            CHECK.is("undo end " + at, x.undo(c.b, c.j, c.i, true), o.all.size() - c.when);
            CHECK.is("undo " + at, x.undo(c.b, c.j, c.i, false), c.when + 1);
            CHECK.is("seen " + at, x.seen(c.b, c.row, c.stake, false), c.over ? c.kind : -1);
            CHECK.is("seen inside " + at, x.seen(c.b, c.row, c.stake, true), c.over ? -1 : c.kind);
        }
    }

    private static void askBand(NoKnot x, Oracle o, int b, String in) {
        String at = b + in;
        int[] band = o.bands.get(b);
        for (int what = 0; what < 6; what++) CHECK.is("band " + what + " " + at, x.band(b, what), band[what]);
        CHECK.is("band 6 " + at, x.band(b, 6), o.slips.stream().filter(s -> s[0] == b).count());
        for (int j = 0; j < 5; j++) CHECK.is("band 1" + j + " " + at, x.band(b, 10 + j), j < band[0] ? band[7 + j] : -2);
        CHECK.is("lean " + at, x.lean(b), band[6]);
        boolean last = b + 1 == o.bands.size();
        CHECK.is("seam " + at, x.seam(b), last ? -1 : o.seam(b, o.bands.get(b + 1)[4]));
        CHECK.is("turn " + at, x.turn(b), last ? -1 : o.turn(b));
        if (o.all.size() < 1500) CHECK.is("repeats " + at, x.repeats(b), o.repeats(b));
        for (int j = 0; j < band[0]; j++) {
            for (int r = 0; r < Math.min(4, band[3]); r++) {
                CHECK.is("spiral " + j + " " + r + " of " + at, x.spiral(b, j, r), r + 1 == band[3] ? -2 : o.spiral(b, j, r));
            }
        }
        for (int most = 1; most < 8; most++) CHECK.is("floats " + most + " of " + at, x.floats(b, most), o.floats(b, most));
        for (int tries = 0; tries < 3; tries++) {
            int seed = RANDOM.nextInt();
            int c = from(0, tries == 0 ? 100 : 5);
            int[] want = o.learner(b, seed, c);
            for (int what = 0; what < 3; what++) {
                CHECK.is("learner " + seed + " " + c + " " + what + " of " + at, x.learner(b, seed, c, what), want[what]);
            }
        }
        CHECK.is("cheaper " + at, x.cheaper(b), o.cheaper(b));
        CHECK.is("joins " + at, x.joins(b, false), o.joins(b, o.overlap, false));
        CHECK.is("joins seen " + at, x.joins(b, true), o.joins(b, o.overlap, true));
        CHECK.is("hide " + at, x.hide(b, 0), o.hide(b)[0]);
        CHECK.is("hide many " + at, x.hide(b, 1), o.hide(b)[1]);
        CHECK.is("height " + at, x.height(b, false), o.height(b, false));
        CHECK.is("height dry " + at, x.height(b, true), o.height(b, true));
        CHECK.is("hold " + at, x.hold(b), o.hold(b));
        CHECK.is("width " + at, x.width(b), o.width(b));
        askCopy(x, o, b, at);
    }

    private static void askCopy(NoKnot x, Oracle o, int b, String at) {
        int[] band = o.bands.get(b);
        int size = from(1, 9);
        int count = band[3] * o.stakes;
        int i = below(count);
        int j = below(band[0]);
        x.numbers(0, below(4), size);
        CHECK.is("copy " + at, x.copy(b, j, i, 0), size);
        // A WIDTH can't be 0: nest() tells whether all that came are 1.
        boolean ones = true;
        int under = 0;
        for (int k = 0; k < size; k++) {
            boolean over = o.isOver(b, j, (i + k) % count, 0);
            ones &= over;
            under += over ? 0 : 1;
        }
        CHECK.is("copied all over " + at, x.nest(0, 0), ones ? size : -3);
        for (int k = 0; k < size; k++) {
            if (!o.isOver(b, j, (i + k) % count, 0)) x.write(0, k, 1);
        }
        CHECK.is("copied none but those under " + at + " " + under, x.nest(0, 0), size);
    }

    private static void askStakes(NoKnot x, Oracle o, int b, String in) {
        boolean small = o.all.size() < 700;
        for (int s = 0; s < o.stakes; s++) {
            if (!small && below(8) != 0) continue;
            String at = b + " " + s + in;
            CHECK.is("overs " + at, x.overs(b, s), o.overs(b, s));
            if (small) CHECK.is("run " + at, x.run(b, s), o.run(b, s));
            CHECK.is("colour " + at, x.colour(b, s, false), o.colour(b, s, false));
            CHECK.is("colour inside " + at, x.colour(b, s, true), o.colour(b, s, true));
            for (int r = 0; r < o.bands.get(b)[3]; r++) CHECK.is("mend " + r + " " + at, x.mend(b, r, s), o.mend(b, r, s));
        }
    }

    private static void askBorders(NoKnot x, Oracle o, String in) {
        for (int tries = 0; tries < 6; tries++) {
            long[] moves = new long[from(1, below(4) == 0 ? 40 : 4)];
            for (int k = 0; k < moves.length; k++) moves[k] = from(1, Math.min(o.stakes - 1, tries < 3 ? 2 : 31));
            Check.row(x, 1, below(4), moves);
            CHECK.is("closes" + in, x.closes(1), o.closes(moves) ? 1 : 0);
        }
        int m = from(1, 4);
        int most = from(1, Math.min(6, o.stakes - 1));
        int[] want = o.border(m, most);
        for (int what = 0; what < 3; what++) {
            CHECK.is("border " + m + " " + most + " " + what + in, x.border(m, most, what), want[what]);
        }
    }

    // ---- pictures

    private static void wishes() {
        int n = below(5) == 0 ? 32 : from(3, 9);
        int[] stroke = {from(1, 4), from(1, 4), from(1, 4), below(n), below(2)};
        String[] rows = new String[stroke[0] * from(1, 8 / stroke[0])];
        int[] kinds = {below(6), below(6), below(6), below(6)};
        for (int row = 0; row < rows.length; row++) {
            StringBuilder s = new StringBuilder();
            for (int k = 0; k < n; k++) {
                boolean over = Oracle.strokeOver(n, stroke, row, k);
                if (below(200) == 0) over = !over;
                int kind = below(200) == 0 ? below(6) : kinds[row % stroke[0]];
                s.append(over ? (char) ('0' + kind) : '.');
            }
            rows[row] = s.toString();
        }
        NoKnot x = new NoKnot();
        Check.basket(x, "stakes " + n + ";");
        String text = String.join(";", rows) + ";";
        CHECK.is("wish " + text, Check.wish(x, text), rows.length);
        int[] want = Oracle.find(rows);
        for (int what = 0; what < 6; what++) CHECK.is("find " + what + " " + text, x.find(what), want[what]);
        for (int j = 0; j < 4; j++) CHECK.is("find 1" + j + " " + text, x.find(10 + j), want[6 + j]);
    }

    private static void prints() {
        int n = below(5) == 0 ? 32 : from(3, 9);
        int[] stroke = {from(1, 4), from(1, 4), from(1, 4), below(n), below(2)};
        String[] rows = new String[stroke[0] * from(1, 8 / stroke[0])];
        int any = from(2, 10);
        int slip = from(5, 60);
        for (int row = 0; row < rows.length; row++) {
            StringBuilder s = new StringBuilder();
            for (int k = 0; k < n; k++) {
                boolean over = Oracle.strokeOver(n, stroke, row, k);
                if (below(slip) == 0) over = !over;
                s.append(below(any) == 0 ? '?' : over ? 'o' : 'u');
            }
            rows[row] = s.toString();
        }
        NoKnot x = new NoKnot();
        Check.basket(x, "stakes " + n + ";");
        String text = String.join(";", rows) + ";";
        CHECK.is("print " + text, Check.print(x, text), rows.length);
        for (int side = 0; side < 2; side++) {
            int[] want = Oracle.reads(rows, side);
            CHECK.is("reads " + side + " " + text, x.reads(side, 0), want[0]);
            CHECK.is("reads left " + side + " " + text, x.reads(side, 1), want[1]);
            for (int what = 0; what < 6; what++) {
                CHECK.is("nearest " + side + " " + what + " " + text, x.nearest(side, what), want[2 + what]);
            }
        }
    }

    // ---- rows of numbers

    private static long[] numbers(int size, int low, int high) {
        long[] out = new long[size];
        for (int k = 0; k < size; k++) out[k] = from(low, high);
        return out;
    }

    private static void rowsOfNumbers() {
        NoKnot x = new NoKnot();
        int overlap = from(0, 20);
        Check.basket(x, "overlap " + overlap + ";");
        long[] lengths = numbers(from(1, 9), 1, below(2) == 0 ? 999 : 20);
        Check.row(x, 0, 3, lengths);
        int t = from(1, below(2) == 0 ? 2000 : 40);
        int[] reach = Oracle.reach(lengths, overlap, t);
        for (int what = 0; what < 3; what++) CHECK.is("reach", x.reach(0, t, what), reach == null ? -1 : reach[what]);
        long[] widths = numbers(from(0, 10), 1, below(2) == 0 ? 9999 : 20);
        Check.row(x, 1, 1, widths);
        int play = from(0, below(2) == 0 ? 999 : 4);
        CHECK.is("nest", x.nest(1, play), Oracle.nest(widths, play));
        int m = from(2, 9);
        long[] moves = numbers(from(0, 40), 1 - m, m - 2);
        Check.row(x, 2, 0, moves);
        CHECK.is("plait order", x.plait(2, m, 0), Oracle.order(moves, m));
        CHECK.is("plait loose", x.plait(2, m, 1), Oracle.looseLeft(moves));
        int[] places = {0, 1, 2, 3, 4, 5, 6, 7, 8};
        int[] behind = Oracle.plaited(moves, places);
        for (int k = 0; k < 9; k++) CHECK.is("plait place", x.plait(2, m, 10 + k), k < m ? behind[k] : -1);
    }

    private static void evens() {
        NoKnot x = new NoKnot();
        long[] thick = numbers(2 * from(1, 4), 1, below(2) == 0 ? 99 : 9);
        Check.row(x, 0, 0, thick);
        int[] want = Oracle.even(thick);
        CHECK.is("even", x.even(0, -1), want[thick.length]);
        for (int k = 0; k < 8; k++) CHECK.is("even " + k, x.even(0, k), k < thick.length ? want[k] : -1);
    }

    private static void bowls(int run) {
        int bands = run % 40 == 0 ? 5 : from(1, 4);
        StringBuilder s = new StringBuilder("stakes 3;rod 9 thick 1 shrinks 0 price 1;wide ");
        int wide = from(1, below(2) == 0 ? 999 : 60);
        s.append(wide).append(";");
        boolean slow = below(4) == 0;
        int[] rounds = new int[bands];
        for (int b = 0; b < bands; b++) {
            rounds[b] = from(1, slow ? 40 : 5);
            s.append("band 1 before 1 behind 1 rounds ").append(rounds[b]).append(" from 0 with 0;");
        }
        long[] wishes = new long[bands];
        int about = wide;
        for (int b = 0; b < bands; b++) {
            int off = below(3) == 0 ? 400 : 9 * rounds[b];
            about = Math.max(1, about + from(-off, off));
            wishes[b] = below(30) == 0 ? from(1, 9999) : about;
        }
        NoKnot x = new NoKnot();
        Check.basket(x, s.toString());
        Check.row(x, 3, 1, wishes);
        int d = from(0, below(3) == 0 ? 18 : 5);
        int[] want = Oracle.of(s.toString()).bowl(wishes, d);
        CHECK.is("bowl " + s + " d " + d, x.bowl(3, d, -1), want[bands]);
        for (int b = 0; b < bands; b++) CHECK.is("bowl " + b + " " + s + " d " + d, x.bowl(3, d, b), want[b]);
        CHECK.is("bowl beyond", x.bowl(3, d, bands), -100);
    }

    private static void hands() {
        NoKnot x = new NoKnot();
        int[] ways = new int[8];
        for (int h = 0; h < 8; h++) {
            ways[h] = below(3) == 0 ? -1 : below(256);
            x.ways(h, ways[h]);
        }
        int[] want = Oracle.taught(ways);
        for (int h = 0; h < 8; h++) CHECK.is("taught " + h, x.taught(h), ways[h] < 0 ? -2 : want[h]);
        CHECK.is("taught all", x.taught(-1), want[8]);
    }

    // ---- faults

    private static final String[] PARTS = {";", "stakes", "rod", "band", "slip", "overlap", "wide", "left", "out", "in",
        "with", " ", "\n", "0", "1", "9", "10", "99", "100", "9999", "00000", "A", "\u00e9", "-", "x", "before", "stakes 3;",
        "slip 0 0 0;", "rod 2 thick 1 shrinks 0 price 0;", "band 1 before 1 behind 1 rounds 1 from 0 with 0;"};

    private static void faults() {
        NoKnot x = new NoKnot();
        int lines = 0;
        for (int k = 0; k < 60; k++) {
            StringBuilder s = new StringBuilder(text(false));
            for (int changes = below(3); changes >= 0; changes--) {
                int at = below(s.length() + 1);
                int to = Math.min(s.length(), at + below(6));
                s.replace(at, below(2) == 0 ? at : to, below(4) == 0 ? "" : PARTS[below(PARTS.length)]);
            }
            if (below(3) == 0) s.setLength(below(s.length() + 1));
            if (s.length() > 500) continue;
            String text = s.toString();
            Oracle o = Oracle.of(text);
            CHECK.is("basket " + text, Check.basket(x, text), o.fault == 0 ? o.lines : -30 - o.fault);
            CHECK.is("fault 0 of " + text, x.fault(0), o.fault);
            CHECK.is("fault 1 of " + text, x.fault(1), o.place);
            lines = o.fault == 0 ? o.lines : lines;
            CHECK.is("lines behind " + text, x.count(6), lines);
            CHECK.is("tape behind " + text, x.count(7), 0);
        }
    }

    private static void steps() {
        NoKnot x = new NoKnot();
        for (int n = 3; n < 40; n++) {
            for (int before = 1; before <= 9; before++) {
                for (int behind = 1; behind <= 9; behind++) {
                    int p = before + behind;
                    int rounds = 1;
                    while (rounds * n % p != 0) rounds++;
                    boolean turned = true;
                    for (int i = 0; i < 50; i++) turned &= (i % p < before) != ((i + n) % p < before);
                    CHECK.is("step 0", x.step(n, before, behind, 0), n % p);
                    CHECK.is("step 1", x.step(n, before, behind, 1), rounds);
                    CHECK.is("step 2", x.step(n, before, behind, 2), turned ? 1 : 0);
                }
            }
        }
        CHECK.is("counts", x.counts(3, 999, 2, 3, 4), 200);
    }
}
