import java.util.ArrayList;
import java.util.Arrays;
import java.util.List;
import java.util.TreeSet;
import java.util.regex.Matcher;
import java.util.regex.Pattern;

/**
 * The document once more, call by call, with all that a run keeps: THE TAPE, IMAGES, ROWS OF NUMBERS, what was
 * refused. Each answer is looked for in the slowest way that its sentence tells; nothing is shared with the Oracle.
 */
final class Model {
    private static final Pattern TOKEN = Pattern.compile("[a-z]+|[0-9]+|;");

    private static final class Fault extends RuntimeException {
        final int kind;
        final int place;

        Fault(int kind, int place) {
            this.kind = kind;
            this.place = place;
        }
    }

    private static final class Band {
        int k;
        int before;
        int behind;
        int rounds;
        int from;
        boolean left;
        int lean;
        int[] with;
    }

    private static final class Told {
        int stakes;
        final List<int[]> kinds = new ArrayList<>();
        final List<Band> bands = new ArrayList<>();
        final List<int[]> slips = new ArrayList<>();
        int overlap = 2;
        int wide = 100;
        int lines;
    }

    private static final class Kept {
        Told told = new Told();
        String[] wish;
        String[] print;
        int[] ways = {-1, -1, -1, -1, -1, -1, -1, -1};

        Kept copy() {
            Kept k = new Kept();
            k.told = told;
            k.wish = wish;
            k.print = print;
            k.ways = ways.clone();
            return k;
        }
    }

    private final StringBuilder tape = new StringBuilder();
    private Kept now = new Kept();
    private final Kept[] images = new Kept[2];
    private final long[][] rows = new long[4][];
    private final int[] sorts = new int[4];
    private final int[] refused = new int[6];
    private int fault;
    private int place = -1;

    private int no(int code) {
        int[] codes = {-2, -3, -5, -6, -7};
        int at = 0;
        while (at < 5 && codes[at] != code) at++;
        refused[at]++;
        return code;
    }

    private static boolean in(long v, long low, long high) {
        return low <= v && v <= high;
    }

    // ---- what the tests ask of a run

    int stakes() {
        return now.told.stakes;
    }

    int bands() {
        return now.told.bands.size();
    }

    int rounds(int b) {
        return now.told.bands.get(b).rounds;
    }

    int numbers(int row) {
        return rows[row] == null ? -1 : rows[row].length;
    }

    // ---- texts

    int feed(int a, int b, int c, int d, int e) {
        if (tape.length() > 480) return no(-5);
        for (int v : new int[] {a, b, c, d, e}) {
            tape.append((char) (v >>> 24)).append((char) (v >>> 16 & 255)).append((char) (v >>> 8 & 255)).append((char) (v & 255));
        }
        return tape.length();
    }

    private String cutTape(int n) {
        String text = tape.substring(0, n);
        tape.setLength(0);
        return text;
    }

    int basket(int n) {
        if (!in(n, 0, tape.length())) return no(-3);
        try {
            Told t = read(cutTape(n));
            fault = 0;
            place = -1;
            now = now.copy();
            now.told = t;
            now.wish = null;
            now.print = null;
            return t.lines;
        } catch (Fault f) {
            fault = f.kind;
            place = f.place;
            return no(-30 - f.kind);
        }
    }

    private static final class Words {
        final String text;
        int at;

        Words(String text) {
            this.text = text;
            skip();
        }

        void skip() {
            while (at < text.length() && (text.charAt(at) == 10 || text.charAt(at) == 32)) at++;
        }

        String next() {
            if (at == text.length()) return "";
            Matcher m = TOKEN.matcher(text).region(at, text.length());
            if (!m.lookingAt()) throw new Fault(1, at);
            if (m.group().matches("[0-9]{5,}")) throw new Fault(1, at);
            return m.group();
        }

        boolean may(String word) {
            if (!next().equals(word)) return false;
            at += word.length();
            skip();
            return true;
        }

        void must(String word) {
            if (!may(word)) throw new Fault(2, at);
        }

        int number(int low, int high) {
            String token = next();
            if (!token.matches("[0-9]+")) throw new Fault(2, at);
            int v = Integer.parseInt(token);
            if (!in(v, low, high)) throw new Fault(3, at);
            at += token.length();
            skip();
            return v;
        }

        void atMost(int there, int most) {
            if (there == most) throw new Fault(4, at);
        }
    }

    private static Told read(String text) {
        Words w = new Words(text);
        Told t = new Told();
        while (!w.next().isEmpty()) {
            switch (w.next()) {
                case "stakes" -> {
                    if (t.stakes > 0) throw new Fault(4, w.at);
                    w.must("stakes");
                    t.stakes = w.number(3, 32);
                }
                case "rod" -> {
                    w.atMost(t.kinds.size(), 6);
                    int[] kind = new int[4];
                    w.must("rod");
                    kind[0] = w.number(2, 99);
                    w.must("thick");
                    kind[1] = w.number(1, 9);
                    w.must("shrinks");
                    kind[2] = w.number(0, 50);
                    w.must("price");
                    kind[3] = w.number(0, 99);
                    t.kinds.add(kind);
                }
                case "band" -> readBand(w, t);
                case "slip" -> {
                    w.atMost(t.slips.size(), 8);
                    w.must("slip");
                    int b = w.number(0, t.bands.size() - 1);
                    int j = w.number(0, t.bands.get(b).k - 1);
                    t.slips.add(new int[] {b, j, w.number(0, t.bands.get(b).rounds * t.stakes - 1)});
                }
                case "overlap" -> {
                    w.must("overlap");
                    t.overlap = w.number(0, 20);
                }
                case "wide" -> {
                    w.must("wide");
                    t.wide = w.number(1, 999);
                }
                default -> throw new Fault(2, w.at);
            }
            w.must(";");
            t.lines++;
        }
        return t;
    }

    private static void readBand(Words w, Told t) {
        if (t.stakes == 0) throw new Fault(3, w.at);
        w.atMost(t.bands.size(), 8);
        Band band = new Band();
        w.must("band");
        band.k = w.number(1, 4);
        w.must("before");
        band.before = w.number(1, 4);
        w.must("behind");
        band.behind = w.number(1, 4);
        w.must("rounds");
        band.rounds = w.number(1, 40);
        w.must("from");
        band.from = w.number(0, t.stakes - 1);
        w.must("with");
        band.with = new int[band.k];
        for (int j = 0; j < band.k; j++) band.with[j] = w.number(0, t.kinds.size() - 1);
        band.left = w.may("left");
        if (w.may("out")) band.lean = w.number(0, 9);
        else if (w.may("in")) band.lean = -w.number(0, 9);
        t.bands.add(band);
    }

    int fault(int what) {
        return what == 0 ? fault : what == 1 ? place : -1;
    }

    private boolean kind(int k) {
        return in(k, 0, now.told.kinds.size() - 1);
    }

    private boolean isBand(int b) {
        return in(b, 0, bands() - 1);
    }

    private boolean stake(int s) {
        return in(s, 0, stakes() - 1);
    }

    private Band at(int b) {
        return now.told.bands.get(b);
    }

    int rod(int kind, int what) {
        return kind(kind) && in(what, 0, 3) ? now.told.kinds.get(kind)[what] : no(-2);
    }

    int band(int b, int what) {
        if (!isBand(b)) return no(-2);
        Band t = at(b);
        int slips = 0;
        for (int[] s : now.told.slips) if (s[0] == b) slips++;
        int[] first = {t.k, t.before, t.behind, t.rounds, t.from, t.left ? 1 : 0, slips};
        if (in(what, 0, 6)) return first[what];
        return in(what, 10, 9 + t.k) ? t.with[what - 10] : no(-2);
    }

    int lean(int b) {
        if (isBand(b)) return at(b).lean;
        no(-2);
        return -100;
    }

    // ---- crossings

    private int crossings(int b) {
        return at(b).rounds * stakes();
    }

    private boolean isCrossing(int b, int j, int i) {
        return isBand(b) && in(j, 0, at(b).k - 1) && in(i, 0, crossings(b) - 1);
    }

    private static int stakeOf(int n, int from, boolean left, int j, int i) {
        int s = left ? from - j - i : from + j + i;
        while (s < 0) s += n;
        return s % n;
    }

    private int stakeOf(int b, int j, int i) {
        return stakeOf(stakes(), at(b).from, at(b).left, j, i);
    }

    private boolean over(int b, int j, int i, int further) {
        int along = i + further;
        for (int[] s : now.told.slips) if (s[0] == b && s[1] == j && s[2] <= i) along++;
        return along % (at(b).before + at(b).behind) < at(b).before;
    }

    private boolean over(int b, int j, int i) {
        return over(b, j, i, 0);
    }

    private int when(int b, int j, int i) {
        int ahead = 0;
        for (int c = 0; c < b; c++) ahead += at(c).k * crossings(c);
        for (int e = 0; e <= i; e++) {
            for (int f = 0; f < at(b).k; f++) {
                if (e == i && f == j) return ahead;
                ahead++;
            }
        }
        return ahead;
    }

    /** Where the rods of a weaver begin. */
    private List<Integer> begins(int kind, int overlap, int crossings) {
        int length = now.told.kinds.get(kind)[0];
        List<Integer> out = new ArrayList<>(List.of(0));
        while (out.get(out.size() - 1) + length < crossings) out.add(out.get(out.size() - 1) + Math.max(1, length - overlap));
        return out;
    }

    private List<Integer> begins(int b, int j) {
        return begins(at(b).with[j], now.told.overlap, crossings(b));
    }

    int crossing(int b, int j, int i, int what) {
        if (!isCrossing(b, j, i) || !in(what, 0, 5)) return no(-2);
        List<Integer> begins = begins(b, j);
        int rod = 0;
        for (int r = 0; r < begins.size(); r++) if (begins.get(r) <= i) rod = r;
        return new int[] {stakeOf(b, j, i), over(b, j, i) ? 1 : 0, rod, i - begins.get(rod), 1 - rod % 2, when(b, j, i)}[what];
    }

    /** The index in a round at which a weaver comes by a STAKE. */
    private int indexAt(int b, int row, int stake) {
        int j = row % at(b).k;
        for (int i = row / at(b).k * stakes(); ; i++) if (stakeOf(b, j, i) == stake) return i;
    }

    private boolean overIn(int b, int row, int stake) {
        return over(b, row % at(b).k, indexAt(b, row, stake));
    }

    private int rowsOf(int b) {
        return at(b).k * at(b).rounds;
    }

    private int seenIn(int b, int row, int stake, boolean inside) {
        return overIn(b, row, stake) != inside ? at(b).with[row % at(b).k] : -1;
    }

    int seen(int b, int row, int stake, boolean inside) {
        return isBand(b) && in(row, 0, rowsOf(b) - 1) && stake(stake) ? seenIn(b, row, stake, inside) : no(-2);
    }

    int overs(int b, int stake) {
        if (!isBand(b) || !stake(stake)) return no(-2);
        int many = 0;
        for (int j = 0; j < at(b).k; j++) {
            for (int i = 0; i < crossings(b); i++) many += stakeOf(b, j, i) == stake && over(b, j, i) ? 1 : 0;
        }
        return many;
    }

    int run(int b, int stake) {
        if (!isBand(b) || !stake(stake)) return no(-2);
        int most = 0;
        for (int first = 0; first < rowsOf(b); first++) {
            int last = first;
            while (last < rowsOf(b) && overIn(b, last, stake) == overIn(b, first, stake)) last++;
            most = Math.max(most, last - first);
        }
        return most;
    }

    int step(int n, int before, int behind, int what) {
        if (!in(n, 3, 999) || !in(before, 1, 9) || !in(behind, 1, 9) || !in(what, 0, 2)) return no(-3);
        int both = before + behind;
        int rounds = 1;
        for (int out = n % both; out % both != 0; out += n) rounds++;
        int opposite = 1;
        for (int i = 0; i < both; i++) if ((i % both < before) == ((i + n) % both < before)) opposite = 0;
        return new int[] {n % both, rounds, opposite}[what];
    }

    int counts(int a, int b, int before, int behind, int by) {
        if (!in(a, 3, 999) || !in(b, a, 999) || !in(before, 1, 9) || !in(behind, 1, 9) || by < 0) return no(-3);
        int many = 0;
        for (int n = a; n <= b; n++) if (step(n, before, behind, 0) == by) many++;
        return many;
    }

    int total() {
        int all = 0;
        for (int b = 0; b < bands(); b++) all += at(b).k * at(b).rounds * stakes();
        return all;
    }

    int undo(int b, int j, int i, boolean end) {
        if (!isCrossing(b, j, i)) return no(-2);
        return end ? total() - when(b, j, i) : when(b, j, i) + 1;
    }

    int mend(int b, int round, int stake) {
        if (!isBand(b) || !in(round, 0, at(b).rounds - 1) || !stake(stake)) return no(-2);
        int most = 0;
        for (int c = b; c < bands(); c++) {
            for (int j = 0; j < at(c).k; j++) {
                for (int i = c == b ? round * stakes() : 0; i < crossings(c); i++) {
                    if (stakeOf(c, j, i) == stake) most = Math.max(most, total() - when(c, j, i));
                }
            }
        }
        return most;
    }

    private int alike(int b, int from) {
        int last = rowsOf(b) - 1;
        int many = 0;
        for (int i = 0; i < stakes(); i++) {
            int s = stakeOf(stakes(), from, at(b + 1).left, 0, i);
            if (over(b + 1, 0, i) == overIn(b, last, s)) many++;
        }
        return many;
    }

    int seam(int b) {
        if (!isBand(b)) return no(-2);
        return b == bands() - 1 ? -1 : alike(b, at(b + 1).from);
    }

    int turn(int b) {
        if (!isBand(b)) return no(-2);
        if (b == bands() - 1) return -1;
        int best = 0;
        for (int from = 0; from < stakes(); from++) if (alike(b, from) < alike(b, best)) best = from;
        return best;
    }

    int spiral(int b, int j, int r) {
        if (!isBand(b) || !in(j, 0, at(b).k - 1) || !in(r, 0, at(b).rounds - 2)) return no(-2);
        int k = at(b).k;
        for (int by = 0; by < stakes(); by++) {
            boolean same = true;
            for (int s = 0; s < stakes(); s++) {
                same &= overIn(b, (r + 1) * k + j, s) == overIn(b, r * k + j, (s - by + stakes()) % stakes());
            }
            if (same) return by;
        }
        return -1;
    }

    int repeats(int b) {
        if (!isBand(b)) return no(-2);
        for (int by = at(b).k; by < rowsOf(b); by += at(b).k) {
            boolean same = true;
            for (int row = 0; same && row + by < rowsOf(b); row++) {
                for (int s = 0; s < stakes(); s++) same &= overIn(b, row, s) == overIn(b, row + by, s);
            }
            if (same) return by;
        }
        return rowsOf(b);
    }

    int colour(int b, int stake, boolean inside) {
        if (!isBand(b) || !stake(stake)) return no(-2);
        int[] often = new int[7];
        for (int row = 0; row < rowsOf(b); row++) {
            int kind = seenIn(b, row, stake, inside);
            if (kind >= 0) often[kind]++;
        }
        int best = 6;
        for (int kind = 5; kind >= 0; kind--) if (often[kind] > 0 && often[kind] >= often[best]) best = kind;
        return best == 6 ? -1 : best;
    }

    private String strand(int b, int j) {
        StringBuilder s = new StringBuilder();
        for (int i = 0; i < crossings(b); i++) s.append(over(b, j, i) ? 'O' : 'U');
        return s.toString();
    }

    int floats(int b, int most) {
        if (!isBand(b)) return no(-2);
        if (!in(most, 1, 9999)) return no(-3);
        int many = 0;
        for (int j = 0; j < at(b).k; j++) {
            Matcher m = Pattern.compile("O+|U+").matcher(strand(b, j));
            while (m.find()) many += m.group().length() > most ? 1 : 0;
        }
        return many;
    }

    int learner(int b, int seed, int c, int what) {
        if (!isBand(b) || !in(what, 0, 2)) return no(-2);
        if (!in(c, 0, 100)) return no(-3);
        int x = seed;
        int slipped = 0;
        int[] further = new int[4];
        TreeSet<Integer> otherwise = new TreeSet<>();
        for (int i = 0; i < crossings(b); i++) {
            for (int j = 0; j < at(b).k; j++) {
                x = 1103515245 * x + 12345;
                if ((x >>> 16) % 100 < c) {
                    slipped++;
                    further[j]++;
                }
                if (over(b, j, i) != over(b, j, i, further[j])) otherwise.add(when(b, j, i));
            }
        }
        if (what == 0) return slipped;
        if (what == 1) return otherwise.size();
        return otherwise.isEmpty() ? -1 : otherwise.first();
    }

    // ---- pictures

    private String[] picture(String text, String signs) {
        if (!text.matches("([" + signs + "]{" + stakes() + "};){1,8}")) return null;
        return text.split(";");
    }

    int wish(int n) {
        if (stakes() == 0) return no(-5);
        if (!in(n, 0, tape.length())) return no(-3);
        String[] rows = picture(cutTape(n), "0-5.");
        if (rows == null) return no(-9);
        now.wish = rows;
        return rows.length;
    }

    int print(int n) {
        if (stakes() == 0) return no(-5);
        if (!in(n, 0, tape.length())) return no(-3);
        String[] rows = picture(cutTape(n), "ou?");
        if (rows == null) return no(-9);
        now.print = rows;
        return rows.length;
    }

    /** All STROKES in the order in which they are told, but those whose K doesn't divide the ROWS. */
    private List<int[]> strokes(int many) {
        List<int[]> out = new ArrayList<>();
        for (int k = 1; k <= 4; k++) {
            if (many % k != 0) continue;
            for (int both = 0; both < 16; both++) {
                for (int from = 0; from < stakes(); from++) {
                    for (int left = 0; left < 2; left++) out.add(new int[] {k, 1 + both / 4, 1 + both % 4, from, left});
                }
            }
        }
        return out;
    }

    /** OVER and UNDER by ROWS and STAKES. */
    private boolean[][] woven(int[] stroke, int many) {
        boolean[][] out = new boolean[many][stakes()];
        for (int row = 0; row < many; row++) {
            int j = row % stroke[0];
            int round = row / stroke[0];
            for (int i = round * stakes(); i < (round + 1) * stakes(); i++) {
                out[row][stakeOf(stakes(), stroke[3], stroke[4] == 1, j, i)] = i % (stroke[1] + stroke[2]) < stroke[1];
            }
        }
        return out;
    }

    /** The KINDS by which a STROKE MAKES the WISH, or null. */
    private int[] kindsFor(int[] stroke) {
        boolean[][] over = woven(stroke, now.wish.length);
        int[] kinds = new int[stroke[0]];
        Arrays.fill(kinds, -1);
        for (int row = 0; row < now.wish.length; row++) {
            for (int s = 0; s < stakes(); s++) {
                char sign = now.wish[row].charAt(s);
                if (over[row][s] != (sign != '.')) return null;
                if (sign == '.') continue;
                int j = row % stroke[0];
                if (kinds[j] >= 0 && kinds[j] != sign - '0') return null;
                kinds[j] = sign - '0';
            }
        }
        for (int j = 0; j < kinds.length; j++) kinds[j] = Math.max(0, kinds[j]);
        return kinds;
    }

    int find(int what) {
        if (now.wish == null) return no(-5);
        if (!in(what, 0, 5) && !in(what, 10, 13)) return no(-2);
        int many = 0;
        int[] first = null;
        for (int[] stroke : strokes(now.wish.length)) {
            if (kindsFor(stroke) == null) continue;
            many++;
            first = first == null ? stroke : first;
        }
        if (what == 5) return many;
        if (first == null) return -1;
        if (what < 5) return first[what];
        return what - 10 < first[0] ? kindsFor(first)[what - 10] : -1;
    }

    private int mistakes(int[] stroke, int side) {
        boolean[][] over = woven(stroke, now.print.length);
        int many = 0;
        for (int row = 0; row < now.print.length; row++) {
            for (int s = 0; s < stakes(); s++) {
                char sign = now.print[row].charAt(side == 0 ? s : stakes() - 1 - s);
                if (sign != '?' && over[row][s] != ((sign == 'o') == (side == 0))) many++;
            }
        }
        return many;
    }

    int reads(int side, int what) {
        if (now.print == null) return no(-5);
        if (!in(side, 0, 1) || !in(what, 0, 1)) return no(-2);
        int many = 0;
        for (int[] stroke : strokes(now.print.length)) {
            if (mistakes(stroke, side) == 0 && (what == 0 || stroke[4] == 1)) many++;
        }
        return many;
    }

    int nearest(int side, int what) {
        if (now.print == null) return no(-5);
        if (!in(side, 0, 1) || !in(what, 0, 5)) return no(-2);
        int fewest = 999;
        int[] first = null;
        for (int[] stroke : strokes(now.print.length)) {
            int here = mistakes(stroke, side);
            if (here < fewest) {
                fewest = here;
                first = stroke;
            }
        }
        return what == 0 ? fewest : first[what - 1];
    }

    // ---- rods

    int rods(int kind) {
        if (!kind(kind)) return no(-2);
        int many = 0;
        for (int b = 0; b < bands(); b++) {
            for (int j = 0; j < at(b).k; j++) many += at(b).with[j] == kind ? begins(b, j).size() : 0;
        }
        return many;
    }

    int waste(int kind) {
        if (!kind(kind)) return no(-2);
        int left = 0;
        for (int b = 0; b < bands(); b++) {
            for (int j = 0; j < at(b).k; j++) {
                List<Integer> begins = begins(b, j);
                int reach = begins.get(begins.size() - 1) + now.told.kinds.get(at(b).with[j])[0];
                left += at(b).with[j] == kind ? reach - crossings(b) : 0;
            }
        }
        return left;
    }

    int cost() {
        int all = 0;
        for (int b = 0; b < bands(); b++) {
            for (int j = 0; j < at(b).k; j++) all += begins(b, j).size() * now.told.kinds.get(at(b).with[j])[3];
        }
        return all;
    }

    int cheaper(int b) {
        if (!isBand(b)) return no(-2);
        int best = -1;
        int least = 0;
        for (int kind = 0; kind < now.told.kinds.size(); kind++) {
            int here = at(b).k * begins(kind, now.told.overlap, crossings(b)).size() * now.told.kinds.get(kind)[3];
            if (best < 0 || here < least) {
                best = kind;
                least = here;
            }
        }
        return best;
    }

    private int joinsBy(int b, int overlap, boolean seen) {
        int many = 0;
        for (int j = 0; j < at(b).k; j++) {
            for (int begin : begins(at(b).with[j], overlap, crossings(b))) {
                if (begin > 0 && (!seen || over(b, j, begin))) many++;
            }
        }
        return many;
    }

    int joins(int b, boolean seen) {
        return isBand(b) ? joinsBy(b, now.told.overlap, seen) : no(-2);
    }

    int hide(int b, int what) {
        if (!isBand(b) || !in(what, 0, 1)) return no(-2);
        int best = 20;
        for (int overlap = 20; overlap >= 0; overlap--) if (joinsBy(b, overlap, true) <= joinsBy(b, best, true)) best = overlap;
        return what == 0 ? best : joinsBy(b, best, true);
    }

    private boolean row(int row) {
        return in(row, 0, 3);
    }

    private boolean all(int row, long low, long high) {
        for (long v : rows[row]) if (!in(v, low, high)) return false;
        return true;
    }

    int reach(int row, int t, int what) {
        if (!row(row) || !in(what, 0, 2)) return no(-2);
        if (rows[row] == null) return no(-6);
        if (!in(rows[row].length, 1, 9) || !all(row, 1, 999) || !in(t, 1, 9999)) return no(-3);
        int[] best = null;
        for (int bits = 1; bits < 1 << rows[row].length; bits++) {
            int length = 0;
            int many = 0;
            for (int k = 0; k < rows[row].length; k++) {
                if ((bits & 1 << k) == 0) continue;
                many++;
                length += rows[row][k];
            }
            int[] here = {many, length - (many - 1) * now.told.overlap - t, bits};
            if (here[1] >= 0 && (best == null || Arrays.compare(here, best) < 0)) best = here;
        }
        return best == null ? -1 : best[what];
    }

    int nest(int row, int play) {
        if (!row(row)) return no(-2);
        if (rows[row] == null) return no(-6);
        if (!all(row, 1, 9999) || !in(play, 0, 999)) return no(-3);
        long[] sorted = rows[row].clone();
        Arrays.sort(sorted);
        int[] chain = new int[sorted.length];
        int most = 0;
        for (int k = 0; k < sorted.length; k++) {
            chain[k] = 1;
            for (int less = 0; less < k; less++) {
                if (sorted[k] - sorted[less] >= play) chain[k] = Math.max(chain[k], chain[less] + 1);
            }
            most = Math.max(most, chain[k]);
        }
        return most;
    }

    private int[] plaitOnce(int row, int[] strands) {
        for (long v : rows[row]) {
            int k = (int) (v < 0 ? -1 - v : v);
            int strand = strands[k];
            strands[k] = strands[k + 1];
            strands[k + 1] = strand;
        }
        return strands;
    }

    int plait(int row, int m, int what) {
        if (!row(row) || !in(what, 0, 1) && !in(what, 10, 18)) return no(-2);
        if (rows[row] == null) return no(-6);
        if (!in(m, 2, 9) || !all(row, 1 - m, m - 2)) return no(-3);
        int[] first = new int[m];
        for (int k = 0; k < m; k++) first[k] = k;
        if (what >= 10) return what - 10 < m ? plaitOnce(row, first.clone())[what - 10] : -1;
        if (what == 0) {
            int[] strands = plaitOnce(row, first.clone());
            int often = 1;
            while (!Arrays.equals(strands, first)) {
                plaitOnce(row, strands);
                often++;
            }
            return often;
        }
        List<Long> left = new ArrayList<>();
        for (long v : rows[row]) left.add(v);
        for (int k = 0; k + 1 < left.size(); k++) {
            if (left.get(k) != -1 - left.get(k + 1)) continue;
            left.remove(k + 1);
            left.remove(k);
            k = -1;
        }
        return left.size();
    }

    private int[] bestOrder;
    private int bestOf;

    private void orders(int row, int[] order, int used) {
        int size = order.length;
        if (used < size) {
            for (int rod = 0; rod < size; rod++) {
                boolean there = false;
                for (int k = 0; k < used; k++) there |= order[k] == rod;
                if (there) continue;
                order[used] = rod;
                orders(row, order, used + 1);
            }
            return;
        }
        int greatest = 0;
        for (int first = 0; first < size; first++) {
            int sum = 0;
            for (int k = 0; k < size; k++) {
                sum += (k < size / 2 ? 1 : -1) * (int) rows[row][order[(first + k) % size]];
            }
            greatest = Math.max(greatest, Math.abs(sum));
        }
        if (bestOrder == null || greatest < bestOf) {
            bestOf = greatest;
            bestOrder = order.clone();
        }
    }

    int even(int row, int what) {
        if (!row(row) || !in(what, -1, 7)) return no(-2);
        if (rows[row] == null) return no(-6);
        int size = rows[row].length;
        if (!in(size, 2, 8) || size % 2 == 1 || !all(row, 1, 99)) return no(-3);
        bestOrder = null;
        orders(row, new int[size], 0);
        if (what == -1) return bestOf;
        return what < size ? bestOrder[what] : -1;
    }

    // ---- dry

    private int tall(int b, boolean dry) {
        int sum = 0;
        for (int kind : at(b).with) sum += now.told.kinds.get(kind)[1] * (dry ? 100 - now.told.kinds.get(kind)[2] : 100);
        return sum * at(b).rounds;
    }

    int height(int b, boolean dry) {
        if (b != -1) return isBand(b) ? tall(b, dry) : no(-2);
        int sum = 0;
        for (int c = 0; c < bands(); c++) sum += tall(c, dry);
        return sum;
    }

    int loose() {
        int best = -1;
        for (int b = 0; b < bands(); b++) {
            long slack = tall(b, false) - tall(b, true);
            if (best < 0 || slack * tall(best, false) > (tall(best, false) - tall(best, true)) * (long) tall(b, false)) best = b;
        }
        return best;
    }

    private int holds(int b) {
        int sum = 0;
        for (int j = 0; j < at(b).k; j++) {
            int[] kind = now.told.kinds.get(at(b).with[j]);
            for (int i = 1; i < crossings(b); i++) sum += over(b, j, i) != over(b, j, i - 1) ? kind[1] * (100 - kind[2]) : 0;
        }
        return sum;
    }

    int hold(int b) {
        return isBand(b) ? holds(b) : no(-2);
    }

    int gives(int load) {
        if (load < 0) return no(-3);
        int bits = 0;
        for (int b = 0; b < bands(); b++) bits += holds(b) < load ? 1 << b : 0;
        return bits;
    }

    // ---- form

    int width(int b) {
        if (b == -1) return now.told.wide;
        if (!isBand(b)) return no(-2);
        return Math.max(1, width(b - 1) + at(b).lean * at(b).rounds);
    }

    private int[] bestLeans;
    private int bestBowl;

    private void leans(int row, int d, int b, int width, int sum, int[] leans) {
        if (b == bands()) {
            if (bestLeans == null || sum < bestBowl) {
                bestBowl = sum;
                bestLeans = leans.clone();
            }
            return;
        }
        for (int lean = -9; lean <= 9; lean++) {
            if (b > 0 && Math.abs(lean - leans[b - 1]) > d) continue;
            leans[b] = lean;
            int next = Math.max(1, width + lean * at(b).rounds);
            leans(row, d, b + 1, next, sum + Math.abs(next - (int) rows[row][b]), leans);
        }
    }

    int bowl(int row, int d, int what) {
        if (!row(row) || rows[row] == null || bands() == 0 || rows[row].length != bands() || !all(row, 1, 9999)
                || !in(what, -1, bands() - 1) || !in(d, 0, 18)) {
            no(-3);
            return -100;
        }
        bestLeans = null;
        leans(row, d, 0, now.told.wide, 0, new int[bands()]);
        return what == -1 ? bestBowl : bestLeans[what];
    }

    int wander(int seed, int what) {
        if (!in(what, 0, 2)) return no(-2);
        int x = seed;
        List<Integer> widths = new ArrayList<>();
        int width = now.told.wide;
        for (Band b : now.told.bands) {
            for (int r = 0; r < b.rounds; r++) {
                x = 1103515245 * x + 12345;
                width = Math.max(1, width + b.lean + (x >>> 16) % 3 - 1);
                widths.add(width);
            }
        }
        if (widths.isEmpty()) widths.add(width);
        TreeSet<Integer> sorted = new TreeSet<>(widths);
        return what == 0 ? width : what == 1 ? sorted.first() : sorted.last();
    }

    // ---- borders

    private boolean closed(long[] moves) {
        TreeSet<Long> gone = new TreeSet<>();
        for (int s = 0; s < stakes(); s++) gone.add((s + moves[s % moves.length]) % stakes());
        return gone.size() == stakes();
    }

    int closes(int row) {
        if (!row(row)) return no(-2);
        if (stakes() == 0) return no(-5);
        if (rows[row] == null) return no(-6);
        if (rows[row].length == 0 || !all(row, 1, stakes() - 1)) return no(-3);
        return closed(rows[row]) ? 1 : 0;
    }

    int border(int m, int most, int what) {
        if (stakes() == 0) return no(-5);
        if (!in(m, 1, 4) || !in(most, 1, Math.min(6, stakes() - 1))) return no(-3);
        if (!in(what, 0, 2)) return no(-2);
        int many = 0;
        int least = 99;
        int first = 0;
        for (int digits = 0; digits < Math.pow(10, m); digits++) {
            long[] moves = new long[m];
            int sum = 0;
            boolean can = true;
            for (int k = m - 1, rest = digits; k >= 0; k--, rest /= 10) {
                moves[k] = rest % 10;
                sum += rest % 10;
                can &= in(moves[k], 1, most);
            }
            if (!can || !closed(moves)) continue;
            many++;
            if (sum < least) {
                least = sum;
                first = digits;
            }
        }
        return new int[] {many, least, first}[what];
    }

    // ---- hands, lids

    int ways(int hand, int bits) {
        if (!in(hand, 0, 7)) return no(-2);
        if (!in(bits, -1, 255)) return no(-3);
        int had = now.ways[hand];
        now.ways[hand] = bits;
        return had;
    }

    int taught(int hand) {
        if (hand != -1 && (!in(hand, 0, 7) || now.ways[hand] < 0)) return no(-2);
        TreeSet<Integer> others = new TreeSet<>();
        for (int h = 0; h < 8; h++) if (now.ways[h] >= 0) others.add(h);
        TreeSet<Integer> standing = new TreeSet<>();
        if (!others.isEmpty()) standing.add(others.pollFirst());
        int[] by = {-1, -1, -1, -1, -1, -1, -1, -1};
        int sum = 0;
        while (!others.isEmpty()) {
            int[] best = {9, 0, 0};
            for (int who : standing) {
                for (int whom : others) {
                    int[] here = {Integer.bitCount(now.ways[who] ^ now.ways[whom]), who, whom};
                    if (Arrays.compare(here, best) < 0) best = here;
                }
            }
            by[best[2]] = best[1];
            sum += best[0];
            others.remove(best[2]);
            standing.add(best[2]);
        }
        return hand == -1 ? sum : by[hand];
    }

    int lid(int kind, int rim, int w, int play, int what) {
        if (!kind(kind) || !kind(rim) || !in(what, 0, 2)) return no(-2);
        if (!in(w, 1, 1500) || !in(play, 1, 99)) return no(-3);
        int dry = w * (100 - now.told.kinds.get(rim)[2]) / 100;
        TreeSet<Integer> fit = new TreeSet<>();
        for (int wet = 1; wet <= 2000; wet++) {
            if (in(wet * (100 - now.told.kinds.get(kind)[2]) / 100 - dry, 1, play)) fit.add(wet);
        }
        if (what == 2) return fit.size();
        return fit.isEmpty() ? -1 : what == 0 ? fit.first() : fit.last();
    }

    // ---- rows of numbers, images

    int numbers(int row, int sort, int n) {
        if (!row(row) || !in(sort, 0, 3)) return no(-2);
        if (!in(n, 0, 40)) return no(-3);
        rows[row] = new long[n];
        sorts[row] = sort;
        return 0;
    }

    private long put(int row, int i, long v) {
        int off = 64 - (8 << sorts[row]);
        rows[row][i] = v << off >> off;
        return rows[row][i];
    }

    long write(int row, int i, long v) {
        if (!row(row)) return no(-2);
        if (rows[row] == null) return no(-6);
        if (!in(i, 0, rows[row].length - 1)) return no(-7);
        return put(row, i, v);
    }

    int copy(int b, int j, int i, int row) {
        if (!isCrossing(b, j, i) || !row(row)) return no(-2);
        if (rows[row] == null) return no(-6);
        for (int k = 0; k < rows[row].length; k++) put(row, k, over(b, j, (i + k) % crossings(b)) ? 1 : 0);
        return rows[row].length;
    }

    int image(int i) {
        if (!in(i, 0, 1)) return no(-2);
        images[i] = now.copy();
        return 0;
    }

    int restore(int i) {
        if (!in(i, 0, 1)) return no(-2);
        if (images[i] == null) return no(-5);
        now = images[i].copy();
        return 0;
    }

    int status(int what) {
        return in(what, 0, 5) ? refused[what] : -1;
    }

    int count(int what) {
        Told t = now.told;
        int[] all = {t.stakes, t.kinds.size(), t.bands.size(), t.slips.size(), t.overlap, t.wide, t.lines, tape.length(),
            now.wish == null ? -1 : now.wish.length, now.print == null ? -1 : now.print.length};
        return in(what, 0, 9) ? all[what] : -1;
    }
}
