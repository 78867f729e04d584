import java.util.ArrayList;
import java.util.Arrays;
import java.util.List;

/**
 * The document's words said once more in the slowest and plainest way, by other means than the
 * program: a list of all crossings that is gone through for every question.
 */
final class Oracle {
    static final class Cross {
        int b, j, i, round, row, stake, rod, along, when, kind;
        boolean over;
    }

    int stakes;
    int overlap = 2;
    int wide = 100;
    int lines;
    final List<int[]> kinds = new ArrayList<>();
    /** K, BEFORE, BEHIND, ROUNDS, FROM, left, LEAN, KINDS .. */
    final List<int[]> bands = new ArrayList<>();
    final List<int[]> slips = new ArrayList<>();
    final List<Cross> all = new ArrayList<>();
    int fault;
    int place = -1;

    // ---- the text

    private static final class Token {
        char sort;
        int at;
        String text;
        int n;
    }

    private static List<Token> tokens(String text) {
        List<Token> out = new ArrayList<>();
        int at = 0;
        while (at <= text.length()) {
            Token t = new Token();
            if (at == text.length()) {
                t.sort = 'e';
                t.at = at;
                out.add(t);
                break;
            }
            char c = text.charAt(at);
            if (c == ' ' || c == '\n') {
                at++;
                continue;
            }
            t.at = at;
            int end = at;
            if (c >= 'a' && c <= 'z') {
                while (end < text.length() && text.charAt(end) >= 'a' && text.charAt(end) <= 'z') end++;
                t.sort = 'w';
            } else if (c >= '0' && c <= '9') {
                while (end < text.length() && text.charAt(end) >= '0' && text.charAt(end) <= '9') end++;
                t.sort = end - at > 4 ? 'x' : 'n';
            } else {
                end = at + 1;
                t.sort = c == ';' ? ';' : 'x';
            }
            t.text = text.substring(at, end);
            if (t.sort == 'n') t.n = Integer.parseInt(t.text);
            out.add(t);
            at = end;
        }
        return out;
    }

    private List<Token> read;
    private int next;

    private static final class Wrong extends RuntimeException {
        private static final long serialVersionUID = 1L;
        final int kind;
        final int at;

        Wrong(int kind, int at) {
            this.kind = kind;
            this.at = at;
        }
    }

    private Token look() {
        Token t = read.get(next);
        if (t.sort == 'x') throw new Wrong(1, t.at);
        return t;
    }

    private boolean sees(String word) {
        Token t = look();
        return t.sort == 'w' && t.text.equals(word);
    }

    private int n(int low, int high) {
        Token t = look();
        if (t.sort != 'n') throw new Wrong(2, t.at);
        if (t.n < low || t.n > high) throw new Wrong(3, t.at);
        next++;
        return t.n;
    }

    private void w(String word) {
        if (!sees(word)) throw new Wrong(2, look().at);
        next++;
    }

    static Oracle of(String text) {
        Oracle o = new Oracle();
        o.read = tokens(text);
        try {
            while (o.look().sort != 'e') {
                o.line();
                if (o.look().sort != ';') throw new Wrong(2, o.look().at);
                o.next++;
                o.lines++;
            }
            o.weave();
        } catch (Wrong e) {
            o.fault = e.kind;
            o.place = e.at;
        }
        return o;
    }

    private void line() {
        Token t = look();
        if (t.sort != 'w') throw new Wrong(2, t.at);
        switch (t.text) {
            case "stakes":
                if (stakes > 0) throw new Wrong(4, t.at);
                next++;
                stakes = n(3, 32);
                break;
            case "rod":
                if (kinds.size() == 6) throw new Wrong(4, t.at);
                next++;
                int[] kind = new int[4];
                kind[0] = n(2, 99);
                w("thick");
                kind[1] = n(1, 9);
                w("shrinks");
                kind[2] = n(0, 50);
                w("price");
                kind[3] = n(0, 99);
                kinds.add(kind);
                break;
            case "band":
                if (stakes == 0) throw new Wrong(3, t.at);
                if (bands.size() == 8) throw new Wrong(4, t.at);
                next++;
                bandLine();
                break;
            case "slip":
                if (slips.size() == 8) throw new Wrong(4, t.at);
                next++;
                int b = n(0, bands.size() - 1);
                int j = n(0, bands.get(b)[0] - 1);
                slips.add(new int[] {b, j, n(0, bands.get(b)[3] * stakes - 1)});
                break;
            case "overlap":
                next++;
                overlap = n(0, 20);
                break;
            case "wide":
                next++;
                wide = n(1, 999);
                break;
            default:
                throw new Wrong(2, t.at);
        }
    }

    private void bandLine() {
        int k = n(1, 4);
        int[] band = new int[7 + k];
        band[0] = k;
        w("before");
        band[1] = n(1, 4);
        w("behind");
        band[2] = n(1, 4);
        w("rounds");
        band[3] = n(1, 40);
        w("from");
        band[4] = n(0, stakes - 1);
        w("with");
        for (int j = 0; j < k; j++) band[7 + j] = n(0, kinds.size() - 1);
        if (sees("left")) {
            next++;
            band[5] = 1;
        }
        if (sees("out")) {
            next++;
            band[6] = n(0, 9);
        } else if (sees("in")) {
            next++;
            band[6] = -n(0, 9);
        }
        bands.add(band);
    }

    // ---- crossings

    private void weave() {
        for (int b = 0; b < bands.size(); b++) {
            int[] band = bands.get(b);
            int count = band[3] * stakes;
            for (int i = 0; i < count; i++) {
                for (int j = 0; j < band[0]; j++) {
                    Cross c = new Cross();
                    c.b = b;
                    c.j = j;
                    c.i = i;
                    c.round = i / stakes;
                    c.row = band[0] * c.round + j;
                    int at = band[5] == 1 ? band[4] - j - i : band[4] + j + i;
                    c.stake = ((at % stakes) + stakes) % stakes;
                    c.over = isOver(b, j, i, 0);
                    c.kind = band[7 + j];
                    List<Integer> begins = begins(c.kind, overlap, count);
                    for (int r = 0; r < begins.size(); r++) if (begins.get(r) <= i) c.rod = r;
                    c.along = i - begins.get(c.rod);
                    c.when = all.size();
                    all.add(c);
                }
            }
        }
    }

    boolean isOver(int b, int j, int i, int more) {
        int[] band = bands.get(b);
        int along = i + more;
        for (int[] s : slips) if (s[0] == b && s[1] == j && s[2] <= i) along++;
        return along % (band[1] + band[2]) < band[1];
    }

    private final java.util.Map<List<Integer>, List<Integer>> beginsKnown = new java.util.HashMap<>();

    List<Integer> begins(int kind, int lap, int count) {
        return beginsKnown.computeIfAbsent(List.of(kind, lap, count), k -> {
            List<Integer> out = new ArrayList<>();
            int length = kinds.get(kind)[0];
            int step = Math.max(1, length - lap);
            int at = 0;
            out.add(at);
            while (at + length < count) {
                at += step;
                out.add(at);
            }
            return out;
        });
    }

    Cross cross(int b, int j, int i) {
        for (Cross c : all) if (c.b == b && c.j == j && c.i == i) return c;
        return null;
    }

    Cross inRow(int b, int row, int stake) {
        for (Cross c : all) if (c.b == b && c.row == row && c.stake == stake) return c;
        return null;
    }

    int rows(int b) {
        return bands.get(b)[0] * bands.get(b)[3];
    }

    int seen(int b, int row, int stake, boolean inside) {
        Cross c = inRow(b, row, stake);
        return c.over != inside ? c.kind : -1;
    }

    int overs(int b, int stake) {
        return (int) all.stream().filter(c -> c.b == b && c.stake == stake && c.over).count();
    }

    int run(int b, int stake) {
        int best = 0;
        for (int from = 0; from < rows(b); from++) {
            int to = from;
            while (to < rows(b) && inRow(b, to, stake).over == inRow(b, from, stake).over) to++;
            best = Math.max(best, to - from);
        }
        return best;
    }

    int mend(int b, int round, int stake) {
        int first = Integer.MAX_VALUE;
        for (Cross c : all) {
            boolean there = c.stake == stake && (c.b > b || c.b == b && c.round >= round);
            if (there) first = Math.min(first, c.when);
        }
        return all.size() - first;
    }

    int seam(int b, int from) {
        int[] band = bands.get(b + 1);
        int alike = 0;
        for (int s = 0; s < stakes; s++) {
            boolean last = inRow(b, rows(b) - 1, s).over;
            int i = 0;
            while ((((band[5] == 1 ? from - i : from + i) % stakes) + stakes) % stakes != s) i++;
            if (last == isOver(b + 1, 0, i, 0)) alike++;
        }
        return alike;
    }

    int turn(int b) {
        int best = 0;
        for (int f = 1; f < stakes; f++) if (seam(b, f) < seam(b, best)) best = f;
        return best;
    }

    int spiral(int b, int j, int r) {
        int k = bands.get(b)[0];
        for (int t = 0; t < stakes; t++) {
            boolean same = true;
            for (int s = 0; s < stakes && same; s++) {
                same = inRow(b, k * (r + 1) + j, s).over
                        == inRow(b, k * r + j, (s - t + stakes) % stakes).over;
            }
            if (same) return t;
        }
        return -1;
    }

    int repeats(int b) {
        int k = bands.get(b)[0];
        for (int p = k; p < rows(b); p += k) {
            boolean same = true;
            for (int row = 0; row + p < rows(b) && same; row++) {
                for (int s = 0; s < stakes && same; s++) {
                    same = inRow(b, row, s).over == inRow(b, row + p, s).over;
                }
            }
            if (same) return p;
        }
        return rows(b);
    }

    int colour(int b, int stake, boolean inside) {
        int[] often = new int[6];
        for (int row = 0; row < rows(b); row++) {
            int kind = seen(b, row, stake, inside);
            if (kind >= 0) often[kind]++;
        }
        int best = -1;
        for (int k = 5; k >= 0; k--) if (often[k] > 0 && (best < 0 || often[k] >= often[best])) best = k;
        return best;
    }

    int floats(int b, int most) {
        int found = 0;
        for (int j = 0; j < bands.get(b)[0]; j++) {
            StringBuilder s = new StringBuilder();
            for (int i = 0; i < bands.get(b)[3] * stakes; i++) s.append(isOver(b, j, i, 0) ? 'o' : 'u');
            for (String part : s.toString().split("(?<=o)(?=u)|(?<=u)(?=o)")) if (part.length() > most) found++;
        }
        return found;
    }

    int[] learner(int b, int seed, int c) {
        int x = seed;
        int[] further = new int[4];
        int slipped = 0, otherwise = 0, first = -1;
        for (Cross k : all) {
            if (k.b != b) continue;
            x = 1103515245 * x + 12345;
            if ((x >>> 16) % 100 < c) {
                further[k.j]++;
                slipped++;
            }
            if (isOver(b, k.j, k.i, further[k.j]) != k.over) {
                otherwise++;
                if (first < 0) first = k.when;
            }
        }
        return new int[] {slipped, otherwise, first};
    }

    // ---- pictures

    /** Whether a STROKE goes OVER in a row at a STAKE. */
    static boolean strokeOver(int n, int[] stroke, int row, int s) {
        int j = row % stroke[0];
        int r = row / stroke[0];
        for (int k = 0; k < n; k++) {
            int at = stroke[4] == 1 ? stroke[3] - j - k : stroke[3] + j + k;
            if (((at % n) + n) % n == s) return (r * n + k) % (stroke[1] + stroke[2]) < stroke[1];
        }
        throw new IllegalStateException();
    }

    static List<int[]> strokes(int n, int rows) {
        List<int[]> out = new ArrayList<>();
        for (int k = 1; k <= 4; k++)
            for (int before = 1; before <= 4; before++)
                for (int behind = 1; behind <= 4; behind++)
                    for (int from = 0; from < n; from++)
                        for (int left = 0; left < 2; left++)
                            if (rows % k == 0) out.add(new int[] {k, before, behind, from, left});
        return out;
    }

    /** The KINDS by which a STROKE MAKES a WISH, or null. */
    static int[] makes(String[] rows, int[] stroke) {
        int n = rows[0].length();
        int[] kinds = new int[stroke[0]];
        Arrays.fill(kinds, -1);
        for (int row = 0; row < rows.length; row++) {
            for (int s = 0; s < n; s++) {
                char sign = rows[row].charAt(s);
                boolean over = strokeOver(n, stroke, row, s);
                if (over != (sign != '.')) return null;
                if (!over) continue;
                int j = row % stroke[0];
                if (kinds[j] >= 0 && kinds[j] != sign - '0') return null;
                kinds[j] = sign - '0';
            }
        }
        for (int j = 0; j < kinds.length; j++) kinds[j] = Math.max(0, kinds[j]);
        return kinds;
    }

    /** K .. left, how many, KINDS. */
    static int[] find(String[] rows) {
        int[] out = new int[10];
        Arrays.fill(out, -1);
        out[5] = 0;
        for (int[] stroke : strokes(rows[0].length(), rows.length)) {
            int[] kinds = makes(rows, stroke);
            if (kinds == null) continue;
            if (out[5]++ == 0) {
                System.arraycopy(stroke, 0, out, 0, 5);
                System.arraycopy(kinds, 0, out, 6, kinds.length);
            }
        }
        return out;
    }

    static int mistakes(String[] rows, int side, int[] stroke) {
        int n = rows[0].length();
        int wrong = 0;
        for (int row = 0; row < rows.length; row++) {
            for (int s = 0; s < n; s++) {
                char sign = rows[row].charAt(side == 1 ? n - 1 - s : s);
                if (sign == '?') continue;
                boolean want = (sign == 'o') == (side == 0);
                if (strokeOver(n, stroke, row, s) != want) wrong++;
            }
        }
        return wrong;
    }

    /** How many fit, how many of them to the left, fewest mistakes, K .. left. */
    static int[] reads(String[] rows, int side) {
        int[] out = {0, 0, Integer.MAX_VALUE, 0, 0, 0, 0, 0};
        for (int[] stroke : strokes(rows[0].length(), rows.length)) {
            int m = mistakes(rows, side, stroke);
            if (m == 0) {
                out[0]++;
                out[1] += stroke[4];
            }
            if (m < out[2]) {
                out[2] = m;
                System.arraycopy(stroke, 0, out, 3, 5);
            }
        }
        return out;
    }

    // ---- rods

    int rods(int kind) {
        int sum = 0;
        for (int[] band : bands)
            for (int j = 0; j < band[0]; j++)
                if (band[7 + j] == kind) sum += begins(kind, overlap, band[3] * stakes).size();
        return sum;
    }

    int waste(int kind) {
        int sum = 0;
        for (int[] band : bands)
            for (int j = 0; j < band[0]; j++)
                if (band[7 + j] == kind) {
                    List<Integer> begins = begins(kind, overlap, band[3] * stakes);
                    sum += begins.get(begins.size() - 1) + kinds.get(kind)[0] - band[3] * stakes;
                }
        return sum;
    }

    int cost() {
        int sum = 0;
        for (int k = 0; k < kinds.size(); k++) sum += rods(k) * kinds.get(k)[3];
        return sum;
    }

    int cheaper(int b) {
        int best = -1;
        long least = Long.MAX_VALUE;
        for (int k = 0; k < kinds.size(); k++) {
            long c = 0;
            for (int j = 0; j < bands.get(b)[0]; j++)
                c += (long) begins(k, overlap, bands.get(b)[3] * stakes).size() * kinds.get(k)[3];
            if (c < least) {
                least = c;
                best = k;
            }
        }
        return best;
    }

    int joins(int b, int lap, boolean seen) {
        int found = 0;
        int[] band = bands.get(b);
        for (int j = 0; j < band[0]; j++) {
            List<Integer> begins = begins(band[7 + j], lap, band[3] * stakes);
            for (int r = 1; r < begins.size(); r++) if (!seen || isOver(b, j, begins.get(r), 0)) found++;
        }
        return found;
    }

    int[] hide(int b) {
        int best = 0;
        for (int o = 1; o <= 20; o++) if (joins(b, o, true) < joins(b, best, true)) best = o;
        return new int[] {best, joins(b, best, true)};
    }

    static int[] reach(long[] lengths, int overlap, int t) {
        int[] best = null;
        for (int set = 1; set < 1 << lengths.length; set++) {
            long sum = 0;
            int rods = 0;
            for (int k = 0; k < lengths.length; k++) {
                if ((set & 1 << k) != 0) {
                    sum += lengths[k];
                    rods++;
                }
            }
            long over = sum - (long) (rods - 1) * overlap - t;
            if (over < 0) continue;
            int[] now = {rods, (int) over, set};
            if (best == null || Arrays.compare(now, best) < 0) best = now;
        }
        return best;
    }

    static int nest(long[] widths, int play) {
        int best = 0;
        for (int set = 0; set < 1 << widths.length; set++) {
            List<Long> in = new ArrayList<>();
            for (int k = 0; k < widths.length; k++) if ((set & 1 << k) != 0) in.add(widths[k]);
            in.sort(null);
            boolean fits = true;
            for (int k = 1; k < in.size(); k++) fits &= in.get(k) >= in.get(k - 1) + play;
            if (fits) best = Math.max(best, in.size());
        }
        return best;
    }

    static int[] plaited(long[] moves, int[] places) {
        int[] p = places.clone();
        for (long v : moves) {
            int k = (int) (v < 0 ? -1 - v : v);
            int keep = p[k];
            p[k] = p[k + 1];
            p[k + 1] = keep;
        }
        return p;
    }

    static int order(long[] moves, int m) {
        int[] first = new int[m];
        for (int k = 0; k < m; k++) first[k] = k;
        int[] p = plaited(moves, first);
        int times = 1;
        while (!Arrays.equals(p, first)) {
            p = plaited(moves, p);
            times++;
        }
        return times;
    }

    static int looseLeft(long[] moves) {
        List<Long> left = new ArrayList<>();
        for (long v : moves) left.add(v);
        boolean more = true;
        while (more) {
            more = false;
            for (int k = 0; k + 1 < left.size() && !more; k++) {
                if (left.get(k) == -1 - left.get(k + 1)) {
                    left.remove(k + 1);
                    left.remove(k);
                    more = true;
                }
            }
        }
        return left.size();
    }

    /** The order that is best, behind it the difference. */
    static int[] even(long[] thick) {
        int[] best = new int[thick.length + 1];
        best[thick.length] = Integer.MAX_VALUE;
        permute(thick, new ArrayList<>(), best);
        return best;
    }

    private static void permute(long[] thick, List<Integer> order, int[] best) {
        int n = thick.length;
        if (order.size() < n) {
            for (int k = 0; k < n; k++) {
                if (order.contains(k)) continue;
                order.add(k);
                permute(thick, order, best);
                order.remove(order.size() - 1);
            }
            return;
        }
        long worst = 0;
        for (int at = 0; at < n; at++) {
            long in = 0, out = 0;
            for (int k = 0; k < n; k++) {
                if (k < n / 2) in += thick[order.get((at + k) % n)];
                else out += thick[order.get((at + k) % n)];
            }
            worst = Math.max(worst, Math.abs(in - out));
        }
        if (worst < best[n]) {
            for (int k = 0; k < n; k++) best[k] = order.get(k);
            best[n] = (int) worst;
        }
    }

    // ---- dry, form

    int height(int b, boolean dry) {
        int sum = 0;
        for (int k = 0; k < bands.size(); k++) {
            if (b != -1 && k != b) continue;
            int[] band = bands.get(k);
            for (int j = 0; j < band[0]; j++) {
                int[] kind = kinds.get(band[7 + j]);
                sum += band[3] * kind[1] * (dry ? 100 - kind[2] : 100);
            }
        }
        return sum;
    }

    int loose() {
        int best = -1;
        for (int b = 0; b < bands.size(); b++) {
            if (best == -1 || slackByWet(b, best) > slackByWet(best, b)) best = b;
        }
        return best;
    }

    /** SLACK of a BAND, over what it and another one have as a common measure. */
    private long slackByWet(int b, int other) {
        return (long) (height(b, false) - height(b, true)) * height(other, false);
    }

    int hold(int b) {
        int[] band = bands.get(b);
        int sum = 0;
        for (int j = 0; j < band[0]; j++) {
            int[] kind = kinds.get(band[7 + j]);
            for (int i = 1; i < band[3] * stakes; i++)
                if (isOver(b, j, i, 0) != isOver(b, j, i - 1, 0)) sum += kind[1] * (100 - kind[2]);
        }
        return sum;
    }

    int width(int b) {
        int w = wide;
        for (int k = 0; k <= b; k++) w = Math.max(1, w + bands.get(k)[6] * bands.get(k)[3]);
        return w;
    }

    /** LEANS, behind them the differences. */
    int[] bowl(long[] wishes, int d) {
        int n = bands.size();
        int[] best = new int[n + 1];
        best[n] = Integer.MAX_VALUE;
        lean(wishes, d, 0, wide, 0, new int[n], best);
        return best;
    }

    private void lean(long[] wishes, int d, int b, int w, int cost, int[] leans, int[] best) {
        if (cost >= best[bands.size()]) return;
        if (b == bands.size()) {
            System.arraycopy(leans, 0, best, 0, b);
            best[b] = cost;
            return;
        }
        for (int l = -9; l <= 9; l++) {
            if (b > 0 && Math.abs(l - leans[b - 1]) > d) continue;
            leans[b] = l;
            int now = Math.max(1, w + l * bands.get(b)[3]);
            lean(wishes, d, b + 1, now, cost + (int) Math.abs(now - wishes[b]), leans, best);
        }
    }

    int[] wander(int seed) {
        int x = seed;
        int w = wide;
        List<Integer> seen = new ArrayList<>();
        for (int[] band : bands) {
            for (int r = 0; r < band[3]; r++) {
                x = 1103515245 * x + 12345;
                w = Math.max(1, w + band[6] + (x >>> 16) % 3 - 1);
                seen.add(w);
            }
        }
        if (seen.isEmpty()) seen.add(wide);
        return new int[] {w, java.util.Collections.min(seen), java.util.Collections.max(seen)};
    }

    // ---- borders, hands, lids

    boolean closes(long[] moves) {
        java.util.Set<Long> to = new java.util.HashSet<>();
        for (int s = 0; s < stakes; s++) to.add((s + moves[s % moves.length]) % stakes);
        return to.size() == stakes;
    }

    int[] border(int m, int most) {
        int[] out = {0, Integer.MAX_VALUE, 0};
        int all = (int) Math.pow(most, m);
        for (int v = 0; v < all; v++) {
            long[] moves = new long[m];
            int rest = v, sum = 0, digits = 0;
            for (int k = m - 1; k >= 0; k--) {
                moves[k] = 1 + rest % most;
                rest /= most;
            }
            for (long move : moves) {
                sum += move;
                digits = digits * 10 + (int) move;
            }
            if (!closes(moves)) continue;
            out[0]++;
            if (sum < out[1]) {
                out[1] = sum;
                out[2] = digits;
            }
        }
        return out;
    }

    /** By whom each was taught (-1), behind them all differences. */
    static int[] taught(int[] ways) {
        int[] out = new int[9];
        Arrays.fill(out, 0, 8, -1);
        List<Integer> in = new ArrayList<>();
        List<Integer> rest = new ArrayList<>();
        for (int h = 0; h < 8; h++) if (ways[h] >= 0) rest.add(h);
        if (!rest.isEmpty()) in.add(rest.remove(0));
        while (!rest.isEmpty()) {
            int[] best = null;
            for (int old : in)
                for (int young : rest) {
                    int[] now = {Integer.bitCount(ways[old] ^ ways[young]), old, young};
                    if (best == null || Arrays.compare(now, best) < 0) best = now;
                }
            out[8] += best[0];
            out[best[2]] = best[1];
            in.add(best[2]);
            rest.remove((Integer) best[2]);
        }
        return out;
    }

    int[] lid(int kind, int rim, int w, int play) {
        int[] out = {-1, -1, 0};
        int dry = w * (100 - kinds.get(rim)[2]) / 100;
        for (int v = 1; v <= 2000; v++) {
            int lid = v * (100 - kinds.get(kind)[2]) / 100;
            if (lid < dry + 1 || lid > dry + play) continue;
            if (out[2]++ == 0) out[0] = v;
            out[1] = v;
        }
        return out;
    }
}
