import java.util.Arrays;

/** Willow round stakes: a basket told as a text, and what can be asked of it. */
public final class NoKnot {
    public static final int NONE = -1;

    private static final int NO_SUCH = -2;
    private static final int BAD_NUMBER = -3;
    private static final int NOT_NOW = -5;
    private static final int ROW_MISSING = -6;
    private static final int NO_PLACE = -7;
    private static final int BAD_TEXT = -9;
    private static final int FAULT_BASE = -30;
    private static final int NO_LEAN = -100;

    private static final int TAPE_SIZE = 500;
    private static final int FEED_SIZE = 20;
    private static final int MOST_OVERLAP = 20;
    private static final int MOST_STAKES = 999;
    private static final int MOST_LID = 2000;
    private static final int GREAT = 0x7fffffff;

    private final byte[] tape;
    private int tapeLength;
    private final Basket basket;
    private final Basket spare;
    private final Reader reader;
    private final Weave weave;
    private final Picture wished;
    private final Picture printed;
    private final Strokes strokes;
    private final Hands hands;
    private final Numbers[] numberRows;
    private final Image[] images;
    private final Evener evener;
    private final BowlMaker bowlMaker;
    private final Plaiter plaiter;
    private final int[] refusals;
    private final int[] scratch;

    public NoKnot() {
        tape = new byte[TAPE_SIZE];
        basket = new Basket();
        spare = new Basket();
        reader = new Reader();
        weave = new Weave(basket);
        wished = new Picture();
        printed = new Picture();
        strokes = new Strokes();
        hands = new Hands();
        numberRows = new Numbers[] {new Numbers(), new Numbers(), new Numbers(), new Numbers()};
        images = new Image[] {new Image(), new Image()};
        evener = new Evener();
        bowlMaker = new BowlMaker();
        plaiter = new Plaiter();
        refusals = new int[6];
        scratch = new int[Numbers.MOST];
    }

    // ---- texts

    public int feed(int a, int b, int c, int d, int e) {
        if (tapeLength + FEED_SIZE > TAPE_SIZE) {
            return refuse(NOT_NOW);
        }
        putBytes(a);
        putBytes(b);
        putBytes(c);
        putBytes(d);
        putBytes(e);
        return tapeLength;
    }

    public int basket(int n) {
        if (!onTape(n)) {
            return refuse(BAD_NUMBER);
        }
        tapeLength = 0;
        if (!reader.readBasket(tape, n, spare)) {
            return refuse(FAULT_BASE - reader.faultKind);
        }
        basket.become(spare);
        wished.clear();
        printed.clear();
        forgetAnswers();
        return basket.lines;
    }

    public int fault(int what) {
        switch (what) {
            case 0: return reader.faultKind;
            case 1: return reader.faultPlace;
            default: return NONE;
        }
    }

    public int rod(int kind, int what) {
        if (!basket.hasKind(kind) || what < Basket.LENGTH || what > Basket.PRICE) {
            return refuse(NO_SUCH);
        }
        return basket.ofKind(kind, what);
    }

    public int band(int b, int what) {
        if (!basket.hasBand(b)) {
            return refuse(NO_SUCH);
        }
        if (what >= Basket.WEAVERS && what <= Basket.LEFT) {
            return basket.ofBand(b, what);
        }
        if (what == 6) {
            return basket.slipsOfBand(b);
        }
        int j = what < 10 ? NONE : what - 10;
        return basket.hasWeaver(b, j) ? basket.kindOf(b, j) : refuse(NO_SUCH);
    }

    public int lean(int b) {
        if (!basket.hasBand(b)) {
            refuse(NO_SUCH);
            return NO_LEAN;
        }
        return basket.ofBand(b, Basket.LEAN);
    }

    // ---- crossings

    public int crossing(int b, int j, int i, int what) {
        if (!basket.hasCrossing(b, j, i)) {
            return refuse(NO_SUCH);
        }
        int rod = basket.rodAt(b, j, i);
        switch (what) {
            case 0: return basket.stakeAt(b, j, i);
            case 1: return weave.goesOver(b, j, i) ? 1 : 0;
            case 2: return rod;
            case 3: return i - rod * basket.rodStep(basket.kindOf(b, j), basket.overlap);
            case 4: return (rod & 1) == 0 ? 1 : 0;
            case 5: return basket.whenOf(b, j, i);
            default: return refuse(NO_SUCH);
        }
    }

    public int seen(int b, int row, int stake, boolean inside) {
        if (!basket.hasBand(b) || row < 0 || row >= basket.rowsOf(b) || !basket.hasStake(stake)) {
            return refuse(NO_SUCH);
        }
        return weave.kindSeen(b, row, stake, inside);
    }

    public int overs(int b, int stake) {
        if (!basket.hasBand(b) || !basket.hasStake(stake)) {
            return refuse(NO_SUCH);
        }
        return weave.oversAt(b, stake);
    }

    public int run(int b, int stake) {
        if (!basket.hasBand(b) || !basket.hasStake(stake)) {
            return refuse(NO_SUCH);
        }
        return weave.longestRun(b, stake);
    }

    public int step(int n, int before, int behind, int what) {
        if (!stakesCan(n) || !strokeCan(before, behind) || what < 0 || what > 2) {
            return refuse(BAD_NUMBER);
        }
        int period = before + behind;
        if (what == 0) {
            return n % period;
        }
        if (what == 1) {
            return period / commonDivisor(n, period);
        }
        return turnsOver(n, before, period) ? 1 : 0;
    }

    public int counts(int a, int b, int before, int behind, int by) {
        if (!stakesCan(a) || !stakesCan(b) || a > b || !strokeCan(before, behind) || by < 0) {
            return refuse(BAD_NUMBER);
        }
        int period = before + behind;
        int found = 0;
        for (int n = a; n <= b; n++) {
            if (n % period == by) {
                found++;
            }
        }
        return found;
    }

    public int total() {
        return basket.allCrossings();
    }

    public int undo(int b, int j, int i, boolean end) {
        if (!basket.hasCrossing(b, j, i)) {
            return refuse(NO_SUCH);
        }
        int when = basket.whenOf(b, j, i);
        return end ? basket.allCrossings() - when : when + 1;
    }

    public int mend(int b, int round, int stake) {
        if (!basket.hasBand(b) || round < 0 || round >= basket.ofBand(b, Basket.ROUNDS)
                || !basket.hasStake(stake)) {
            return refuse(NO_SUCH);
        }
        return basket.allCrossings() - basket.firstTouch(b, round, stake);
    }

    public int seam(int b) {
        if (!basket.hasBand(b)) {
            return refuse(NO_SUCH);
        }
        if (!basket.hasBand(b + 1)) {
            return NONE;
        }
        return weave.alike(b, basket.ofBand(b + 1, Basket.FROM));
    }

    public int turn(int b) {
        if (!basket.hasBand(b)) {
            return refuse(NO_SUCH);
        }
        if (!basket.hasBand(b + 1)) {
            return NONE;
        }
        return weave.bestFrom(b);
    }

    public int spiral(int b, int j, int r) {
        if (!basket.hasWeaver(b, j) || r < 0 || r > basket.ofBand(b, Basket.ROUNDS) - 2) {
            return refuse(NO_SUCH);
        }
        return weave.turnBetween(b, j, r);
    }

    public int repeats(int b) {
        return basket.hasBand(b) ? weave.rowsTillAgain(b) : refuse(NO_SUCH);
    }

    public int colour(int b, int stake, boolean inside) {
        if (!basket.hasBand(b) || !basket.hasStake(stake)) {
            return refuse(NO_SUCH);
        }
        return weave.mostSeen(b, stake, inside);
    }

    public int floats(int b, int most) {
        if (!basket.hasBand(b)) {
            return refuse(NO_SUCH);
        }
        if (most < 1 || most > 9999) {
            return refuse(BAD_NUMBER);
        }
        return weave.longStretches(b, most);
    }

    public int learner(int b, int seed, int c, int what) {
        if (!basket.hasBand(b) || what < 0 || what > 2) {
            return refuse(NO_SUCH);
        }
        if (c < 0 || c > 100) {
            return refuse(BAD_NUMBER);
        }
        return weave.learnerDoes(b, seed, c, what);
    }

    // ---- pictures

    public int wish(int n) {
        return takePicture(n, wished, true);
    }

    public int find(int what) {
        if (wished.rows == 0) {
            return refuse(NOT_NOW);
        }
        boolean told = what >= 0 && what <= Strokes.HOW_MANY;
        boolean weaver = what >= 10 && what < 10 + Basket.MOST_WEAVERS;
        if (!told && !weaver) {
            return refuse(NO_SUCH);
        }
        strokes.makeKnown(wished, basket.stakes);
        return strokes.ofMaker(weaver ? Strokes.KINDS + what - 10 : what);
    }

    public int print(int n) {
        return takePicture(n, printed, false);
    }

    public int reads(int side, int what) {
        if (printed.rows == 0) {
            return refuse(NOT_NOW);
        }
        if (side < 0 || side > 1 || what < 0 || what > 1) {
            return refuse(NO_SUCH);
        }
        strokes.readKnown(printed, basket.stakes);
        return strokes.ofReader(side, what == 0 ? Strokes.FITTING : Strokes.FITTING_LEFT);
    }

    public int nearest(int side, int what) {
        if (printed.rows == 0) {
            return refuse(NOT_NOW);
        }
        if (side < 0 || side > 1 || what < 0 || what > 5) {
            return refuse(NO_SUCH);
        }
        strokes.readKnown(printed, basket.stakes);
        return strokes.ofReader(side, what == 0 ? Strokes.MISTAKES : what - 1);
    }

    // ---- rods

    public int rods(int kind) {
        return basket.hasKind(kind) ? basket.rodsTaken(kind) : refuse(NO_SUCH);
    }

    public int waste(int kind) {
        return basket.hasKind(kind) ? basket.leftOver(kind) : refuse(NO_SUCH);
    }

    public int cost() {
        int all = 0;
        for (int kind = 0; kind < basket.kinds; kind++) {
            all += basket.rodsTaken(kind) * basket.ofKind(kind, Basket.PRICE);
        }
        return all;
    }

    public int cheaper(int b) {
        return basket.hasBand(b) ? basket.cheapestKind(b) : refuse(NO_SUCH);
    }

    public int joins(int b, boolean seen) {
        if (!basket.hasBand(b)) {
            return refuse(NO_SUCH);
        }
        return weave.joinsOf(b, basket.overlap, seen);
    }

    public int hide(int b, int what) {
        if (!basket.hasBand(b) || what < 0 || what > 1) {
            return refuse(NO_SUCH);
        }
        int best = 0;
        int fewest = weave.joinsOf(b, 0, true);
        int longest = basket.longestRod(b);
        // With an overlap of the longest rod or more every STEP is 1 as it was before: nothing new.
        for (int o = 1; o <= MOST_OVERLAP && o < longest; o++) {
            int now = weave.joinsOf(b, o, true);
            if (now < fewest) {
                fewest = now;
                best = o;
            }
        }
        return what == 0 ? best : fewest;
    }

    public int reach(int row, int t, int what) {
        if (!isRow(row) || what < 0 || what > 2) {
            return refuse(NO_SUCH);
        }
        Numbers lengths = numberRows[row];
        if (lengths.isMissing()) {
            return refuse(ROW_MISSING);
        }
        if (lengths.size < 1 || lengths.size > 9 || !lengths.allWithin(1, 999) || t < 1 || t > 9999) {
            return refuse(BAD_NUMBER);
        }
        int set = fewestThatReach(lengths, t);
        if (set == 0) {
            return NONE;
        }
        switch (what) {
            case 0: return Integer.bitCount(set);
            case 1: return coveredBy(lengths, set) - t;
            default: return set;
        }
    }

    public int nest(int row, int play) {
        if (!isRow(row)) {
            return refuse(NO_SUCH);
        }
        Numbers widths = numberRows[row];
        if (widths.isMissing()) {
            return refuse(ROW_MISSING);
        }
        if (!widths.allWithin(1, 9999) || play < 0 || play > 999) {
            return refuse(BAD_NUMBER);
        }
        return mostNested(widths, play);
    }

    public int plait(int row, int m, int what) {
        boolean place = what >= 10 && what < 10 + Plaiter.MOST_STRANDS;
        if (!isRow(row) || !place && what != 0 && what != 1) {
            return refuse(NO_SUCH);
        }
        Numbers moves = numberRows[row];
        if (moves.isMissing()) {
            return refuse(ROW_MISSING);
        }
        if (m < 2 || m > Plaiter.MOST_STRANDS || !moves.allWithin(1 - m, m - 2)) {
            return refuse(BAD_NUMBER);
        }
        if (what == 1) {
            return plaiter.leftOf(moves);
        }
        plaiter.make(moves, m);
        return what == 0 ? plaiter.orderOf(m) : plaiter.strandAt(what - 10, m);
    }

    public int even(int row, int what) {
        if (!isRow(row) || what < NONE || what >= Evener.MOST) {
            return refuse(NO_SUCH);
        }
        Numbers thick = numberRows[row];
        if (thick.isMissing()) {
            return refuse(ROW_MISSING);
        }
        boolean pairs = thick.size >= 2 && thick.size <= Evener.MOST && (thick.size & 1) == 0;
        if (!pairs || !thick.allWithin(1, 99)) {
            return refuse(BAD_NUMBER);
        }
        if (what >= thick.size) {
            return NONE;
        }
        evener.putRound(thick);
        return what == NONE ? evener.least : evener.rodAtPlace(what);
    }

    // ---- dry

    public int height(int b, boolean dry) {
        if (b == NONE) {
            int all = 0;
            for (int each = 0; each < basket.bands; each++) {
                all += basket.heightOf(each, dry);
            }
            return all;
        }
        return basket.hasBand(b) ? basket.heightOf(b, dry) : refuse(NO_SUCH);
    }

    public int loose() {
        return basket.loosest();
    }

    public int hold(int b) {
        return basket.hasBand(b) ? weave.holdOf(b) : refuse(NO_SUCH);
    }

    public int gives(int load) {
        if (load < 0) {
            return refuse(BAD_NUMBER);
        }
        int bits = 0;
        for (int b = 0; b < basket.bands; b++) {
            if (weave.holdOf(b) < load) {
                bits |= 1 << b;
            }
        }
        return bits;
    }

    // ---- form

    public int width(int b) {
        if (b != NONE && !basket.hasBand(b)) {
            return refuse(NO_SUCH);
        }
        return basket.widthBehind(b);
    }

    public int bowl(int row, int d, int what) {
        if (!bowlCan(row, d, what)) {
            refuse(BAD_NUMBER);
            return NO_LEAN;
        }
        bowlMaker.make(basket, numberRows[row], d);
        return what == NONE ? bowlMaker.difference() : bowlMaker.leanOf(what);
    }

    public int wander(int seed, int what) {
        if (what < 0 || what > 2) {
            return refuse(NO_SUCH);
        }
        return basket.wanderFrom(seed, what);
    }

    // ---- borders

    public int closes(int row) {
        if (!isRow(row)) {
            return refuse(NO_SUCH);
        }
        if (basket.stakes == 0) {
            return refuse(NOT_NOW);
        }
        Numbers moves = numberRows[row];
        if (moves.isMissing()) {
            return refuse(ROW_MISSING);
        }
        if (moves.size == 0 || !moves.allWithin(1, basket.stakes - 1)) {
            return refuse(BAD_NUMBER);
        }
        for (int k = 0; k < moves.size; k++) {
            scratch[k] = moves.intAt(k);
        }
        return isClosed(scratch, moves.size, basket.stakes) ? 1 : 0;
    }

    public int border(int m, int most, int what) {
        if (basket.stakes == 0) {
            return refuse(NOT_NOW);
        }
        if (m < 1 || m > 4 || most < 1 || most > 6 || most >= basket.stakes) {
            return refuse(BAD_NUMBER);
        }
        if (what < 0 || what > 2) {
            return refuse(NO_SUCH);
        }
        return bordersThatClose(m, most, what);
    }

    // ---- hands, lids

    public int ways(int hand, int bits) {
        if (!hands.isHand(hand)) {
            return refuse(NO_SUCH);
        }
        if (bits < NONE || bits > 255) {
            return refuse(BAD_NUMBER);
        }
        return hands.tell(hand, bits);
    }

    public int taught(int hand) {
        if (hand == NONE) {
            return hands.teachAll();
        }
        if (!hands.isTold(hand)) {
            return refuse(NO_SUCH);
        }
        hands.teachAll();
        return hands.teacherOf(hand);
    }

    public int lid(int kind, int rim, int w, int play, int what) {
        if (!basket.hasKind(kind) || !basket.hasKind(rim) || what < 0 || what > 2) {
            return refuse(NO_SUCH);
        }
        if (w < 1 || w > 1500 || play < 1 || play > 99) {
            return refuse(BAD_NUMBER);
        }
        int dryRim = w * basket.driesTo(rim) / 100;
        int share = basket.driesTo(kind);
        if (share < 1) {
            return what == 2 ? 0 : NONE;
        }
        int least = (100 * (dryRim + 1) + share - 1) / share;
        int greatest = Math.min(MOST_LID, (100 * (dryRim + play + 1) - 1) / share);
        if (least > greatest) {
            return what == 2 ? 0 : NONE;
        }
        switch (what) {
            case 0: return least;
            case 1: return greatest;
            default: return greatest - least + 1;
        }
    }

    // ---- rows of numbers, images

    public int numbers(int row, int sort, int n) {
        if (!isRow(row) || sort < 0 || sort > 3) {
            return refuse(NO_SUCH);
        }
        if (n < 0 || n > Numbers.MOST) {
            return refuse(BAD_NUMBER);
        }
        numberRows[row].begin(sort, n);
        return 0;
    }

    public long write(int row, int i, long v) {
        if (!isRow(row)) {
            return refuse(NO_SUCH);
        }
        Numbers there = numberRows[row];
        if (there.isMissing()) {
            return refuse(ROW_MISSING);
        }
        if (i < 0 || i >= there.size) {
            return refuse(NO_PLACE);
        }
        return there.put(i, v);
    }

    public int copy(int b, int j, int i, int row) {
        if (!basket.hasCrossing(b, j, i) || !isRow(row)) {
            return refuse(NO_SUCH);
        }
        Numbers there = numberRows[row];
        if (there.isMissing()) {
            return refuse(ROW_MISSING);
        }
        int at = i;
        for (int k = 0; k < there.size; k++) {
            there.put(k, weave.goesOver(b, j, at) ? 1 : 0);
            at = at + 1 < basket.crossingsOf(b) ? at + 1 : 0;
        }
        return there.size;
    }

    public int image(int i) {
        if (i < 0 || i >= images.length) {
            return refuse(NO_SUCH);
        }
        Image into = images[i];
        into.basket.become(basket);
        into.wished.become(wished);
        into.printed.become(printed);
        into.hands.become(hands);
        into.made = true;
        return 0;
    }

    public int restore(int i) {
        if (i < 0 || i >= images.length) {
            return refuse(NO_SUCH);
        }
        Image from = images[i];
        if (!from.made) {
            return refuse(NOT_NOW);
        }
        basket.become(from.basket);
        wished.become(from.wished);
        printed.become(from.printed);
        hands.become(from.hands);
        forgetAnswers();
        return 0;
    }

    public int status(int what) {
        return what >= 0 && what < refusals.length ? refusals[what] : NONE;
    }

    public int count(int what) {
        switch (what) {
            case 0: return basket.stakes;
            case 1: return basket.kinds;
            case 2: return basket.bands;
            case 3: return basket.slips;
            case 4: return basket.overlap;
            case 5: return basket.wide;
            case 6: return basket.lines;
            case 7: return tapeLength;
            case 8: return wished.rows == 0 ? NONE : wished.rows;
            case 9: return printed.rows == 0 ? NONE : printed.rows;
            default: return NONE;
        }
    }

    // ---- what the calls share

    private int refuse(int code) {
        switch (code) {
            case NO_SUCH: refusals[0]++; break;
            case BAD_NUMBER: refusals[1]++; break;
            case NOT_NOW: refusals[2]++; break;
            case ROW_MISSING: refusals[3]++; break;
            case NO_PLACE: refusals[4]++; break;
            default: refusals[5]++; break;
        }
        return code;
    }

    private void putBytes(int four) {
        for (int shift = 24; shift >= 0 && tapeLength < tape.length; shift -= 8) {
            tape[tapeLength] = (byte) (four >>> shift);
            tapeLength++;
        }
    }

    private boolean onTape(int n) {
        return n >= 0 && n <= tapeLength;
    }

    private boolean isRow(int row) {
        return row >= 0 && row < numberRows.length;
    }

    private void forgetAnswers() {
        weave.forget();
        strokes.forgetWish();
        strokes.forgetPrint();
    }

    private int takePicture(int n, Picture into, boolean wish) {
        if (basket.stakes == 0) {
            return refuse(NOT_NOW);
        }
        if (!onTape(n)) {
            return refuse(BAD_NUMBER);
        }
        tapeLength = 0;
        if (!Picture.isPicture(tape, n, basket.stakes, wish)) {
            return refuse(BAD_TEXT);
        }
        into.take(tape, n, basket.stakes, wish);
        if (wish) {
            strokes.forgetWish();
        } else {
            strokes.forgetPrint();
        }
        return into.rows;
    }

    private static boolean stakesCan(int n) {
        return n >= 3 && n <= MOST_STAKES;
    }

    private static boolean strokeCan(int before, int behind) {
        return before >= 1 && before <= 9 && behind >= 1 && behind <= 9;
    }

    private static int commonDivisor(int a, int b) {
        int high = a;
        int low = b;
        // No two ints take more than some fifty turns.
        for (int turn = 0; turn < 64 && low > 0; turn++) {
            int rest = high % low;
            high = low;
            low = rest;
        }
        return Math.max(1, high);
    }

    private static boolean turnsOver(int n, int before, int period) {
        for (int i = 0; i < period; i++) {
            if ((i < before) == ((i + n) % period < before)) {
                return false;
            }
        }
        return true;
    }

    private int coveredBy(Numbers lengths, int set) {
        int sum = 0;
        for (int k = 0; k < lengths.size; k++) {
            if ((set >>> k & 1) == 1) {
                sum += lengths.intAt(k);
            }
        }
        return sum - (Integer.bitCount(set) - 1) * basket.overlap;
    }

    /** 0 where no set of rods covers t. */
    private int fewestThatReach(Numbers lengths, int t) {
        int best = 0;
        int bestRods = 0;
        int bestOver = 0;
        for (int set = 1; set < 1 << lengths.size; set++) {
            int over = coveredBy(lengths, set) - t;
            int rods = Integer.bitCount(set);
            boolean better = best == 0 || rods < bestRods || rods == bestRods && over < bestOver;
            if (over >= 0 && better) {
                best = set;
                bestRods = rods;
                bestOver = over;
            }
        }
        return best;
    }

    private int mostNested(Numbers widths, int play) {
        for (int k = 0; k < widths.size; k++) {
            int width = widths.intAt(k);
            int at = k;
            for (; at > 0 && scratch[at - 1] > width; at--) {
                scratch[at] = scratch[at - 1];
            }
            scratch[at] = width;
        }
        int nested = 0;
        int last = 0;
        for (int k = 0; k < widths.size; k++) {
            if (nested == 0 || scratch[k] - last >= play) {
                nested++;
                last = scratch[k];
            }
        }
        return nested;
    }

    private boolean bowlCan(int row, int d, int what) {
        if (!isRow(row) || what < NONE || what >= basket.bands || d < 0 || d > 18) {
            return false;
        }
        Numbers wishes = numberRows[row];
        return basket.bands > 0 && wishes.size == basket.bands && wishes.allWithin(1, 9999);
    }

    private static boolean isClosed(int[] moves, int m, int stakes) {
        int gone = 0;
        int move = 0;
        for (int s = 0; s < stakes; s++) {
            int to = s + moves[move];
            int bit = 1 << (to >= stakes ? to - stakes : to);
            if ((gone & bit) != 0) {
                return false;
            }
            gone |= bit;
            move = move + 1 < m ? move + 1 : 0;
        }
        return true;
    }

    private int bordersThatClose(int m, int most, int what) {
        Arrays.fill(scratch, 0, m, 1);
        int closing = 0;
        int leastSum = 0;
        int first = 0;
        boolean more = true;
        for (int tried = 0; tried < 6 * 6 * 6 * 6 && more; tried++) {
            if (isClosed(scratch, m, basket.stakes)) {
                int sum = 0;
                int digits = 0;
                for (int k = 0; k < m; k++) {
                    sum += scratch[k];
                    digits = digits * 10 + scratch[k];
                }
                if (closing == 0 || sum < leastSum) {
                    leastSum = sum;
                    first = digits;
                }
                closing++;
            }
            more = nextMoves(m, most);
        }
        switch (what) {
            case 0: return closing;
            case 1: return leastSum;
            default: return first;
        }
    }

    private boolean nextMoves(int m, int most) {
        for (int k = m - 1; k >= 0; k--) {
            if (scratch[k] < most) {
                scratch[k]++;
                return true;
            }
            scratch[k] = 1;
        }
        return false;
    }

    private static int drawn(int x) {
        return 1103515245 * x + 12345;
    }

    private static int maskOf(int n) {
        return n >= 32 ? -1 : (1 << n) - 1;
    }

    /** Bit k of n comes to bit k and by, round the n. */
    private static int turned(int mask, int by, int n) {
        int t = Math.floorMod(by, Math.max(1, n));
        return t == 0 ? mask : (mask << t | mask >>> n - t) & maskOf(n);
    }

    private static int mirrored(int mask, int n) {
        int bits = 0;
        for (int k = 0; k < n; k++) {
            bits = bits << 1 | mask >>> k & 1;
        }
        return bits;
    }

    /** What THE BASKET's text told, and what follows from it without looking at OVER and UNDER. */
    private static final class Basket {
        static final int MOST_KINDS = 6;
        static final int MOST_BANDS = 8;
        static final int MOST_SLIPS = 8;
        static final int MOST_WEAVERS = 4;

        static final int LENGTH = 0;
        static final int THICK = 1;
        static final int SHRINKS = 2;
        static final int PRICE = 3;
        static final int KIND_SIZE = 4;

        static final int WEAVERS = 0;
        static final int BEFORE = 1;
        static final int BEHIND = 2;
        static final int ROUNDS = 3;
        static final int FROM = 4;
        static final int LEFT = 5;
        static final int LEAN = 6;
        static final int WITH = 7;
        static final int BAND_SIZE = WITH + MOST_WEAVERS;

        static final int SLIP_SIZE = 3;

        int stakes;
        int kinds;
        int bands;
        int slips;
        int overlap;
        int wide;
        int lines;
        final int[] kindTable = new int[MOST_KINDS * KIND_SIZE];
        final int[] bandTable = new int[MOST_BANDS * BAND_SIZE];
        final int[] slipTable = new int[MOST_SLIPS * SLIP_SIZE];

        Basket() {
            overlap = 2;
            wide = 100;
        }

        void clear() {
            stakes = 0;
            kinds = 0;
            bands = 0;
            slips = 0;
            overlap = 2;
            wide = 100;
            lines = 0;
        }

        void become(Basket other) {
            stakes = other.stakes;
            kinds = other.kinds;
            bands = other.bands;
            slips = other.slips;
            overlap = other.overlap;
            wide = other.wide;
            lines = other.lines;
            System.arraycopy(other.kindTable, 0, kindTable, 0, kindTable.length);
            System.arraycopy(other.bandTable, 0, bandTable, 0, bandTable.length);
            System.arraycopy(other.slipTable, 0, slipTable, 0, slipTable.length);
        }

        boolean hasKind(int kind) {
            return kind >= 0 && kind < kinds;
        }

        boolean hasBand(int b) {
            return b >= 0 && b < bands;
        }

        boolean hasStake(int stake) {
            return stake >= 0 && stake < stakes;
        }

        boolean hasWeaver(int b, int j) {
            return hasBand(b) && j >= 0 && j < ofBand(b, WEAVERS);
        }

        boolean hasCrossing(int b, int j, int i) {
            return hasWeaver(b, j) && i >= 0 && i < crossingsOf(b);
        }

        int ofKind(int kind, int what) {
            int at = kind * KIND_SIZE + what;
            return at >= 0 && at < kindTable.length ? kindTable[at] : 0;
        }

        int ofBand(int b, int what) {
            int at = b * BAND_SIZE + what;
            return at >= 0 && at < bandTable.length ? bandTable[at] : 0;
        }

        int kindOf(int b, int j) {
            return ofBand(b, WITH + j);
        }

        /** The stakes as a divisor: no band stands without stakes, but none may divide by 0 either. */
        int ring() {
            return Math.max(1, stakes);
        }

        int weaversOf(int b) {
            return Math.max(1, ofBand(b, WEAVERS));
        }

        int periodOf(int b) {
            return Math.max(1, ofBand(b, BEFORE) + ofBand(b, BEHIND));
        }

        /** Of each of its weavers. */
        int crossingsOf(int b) {
            return ofBand(b, ROUNDS) * stakes;
        }

        int rowsOf(int b) {
            return ofBand(b, WEAVERS) * ofBand(b, ROUNDS);
        }

        int slipsOfBand(int b) {
            int found = 0;
            for (int k = 0; k < slips; k++) {
                if (slipTable[k * SLIP_SIZE] == b) {
                    found++;
                }
            }
            return found;
        }

        int slipsAt(int b, int j, int i) {
            int found = 0;
            for (int k = 0; k < slips; k++) {
                int at = k * SLIP_SIZE;
                if (slipTable[at] == b && slipTable[at + 1] == j && slipTable[at + 2] == i) {
                    found++;
                }
            }
            return found;
        }

        int stakeAt(int b, int j, int i) {
            int from = ofBand(b, FROM);
            return Math.floorMod(ofBand(b, LEFT) == 1 ? from - j - i : from + j + i, ring());
        }

        /** How many CROSSINGS of a round lie ahead of that at a STAKE. */
        int offsetOf(int b, int j, int stake) {
            int from = ofBand(b, FROM);
            return Math.floorMod(ofBand(b, LEFT) == 1 ? from - j - stake : stake - from - j, ring());
        }

        int aheadOf(int b) {
            int ahead = 0;
            for (int each = 0; each < b && each < bands; each++) {
                ahead += ofBand(each, WEAVERS) * crossingsOf(each);
            }
            return ahead;
        }

        int allCrossings() {
            return aheadOf(bands);
        }

        int whenOf(int b, int j, int i) {
            return aheadOf(b) + i * ofBand(b, WEAVERS) + j;
        }

        /** WHEN the STAKE is first woven in a round: each weaver comes by it once. */
        int firstTouch(int b, int round, int stake) {
            int first = whenOf(b, 0, round * stakes + offsetOf(b, 0, stake));
            for (int j = 1; j < ofBand(b, WEAVERS); j++) {
                first = Math.min(first, whenOf(b, j, round * stakes + offsetOf(b, j, stake)));
            }
            return first;
        }

        int rodStep(int kind, int lap) {
            return Math.max(1, ofKind(kind, LENGTH) - lap);
        }

        int rodsFor(int kind, int lap, int crossings) {
            int beyond = crossings - ofKind(kind, LENGTH);
            int by = rodStep(kind, lap);
            return beyond <= 0 ? 1 : 1 + (beyond + by - 1) / by;
        }

        int rodAt(int b, int j, int i) {
            int kind = kindOf(b, j);
            return Math.min(i / rodStep(kind, overlap), rodsFor(kind, overlap, crossingsOf(b)) - 1);
        }

        int weaversOfKind(int b, int kind) {
            int found = 0;
            for (int j = 0; j < ofBand(b, WEAVERS); j++) {
                if (kindOf(b, j) == kind) {
                    found++;
                }
            }
            return found;
        }

        int rodsTaken(int kind) {
            int all = 0;
            for (int b = 0; b < bands; b++) {
                all += weaversOfKind(b, kind) * rodsFor(kind, overlap, crossingsOf(b));
            }
            return all;
        }

        int leftOver(int kind) {
            int all = 0;
            for (int b = 0; b < bands; b++) {
                int last = (rodsFor(kind, overlap, crossingsOf(b)) - 1) * rodStep(kind, overlap);
                int left = last + ofKind(kind, LENGTH) - crossingsOf(b);
                all += weaversOfKind(b, kind) * left;
            }
            return all;
        }

        /** All weavers weave as far as one another, so one of them tells which KIND is cheapest. */
        int cheapestKind(int b) {
            int best = 0;
            int least = 0;
            for (int kind = 0; kind < kinds; kind++) {
                int price = rodsFor(kind, overlap, crossingsOf(b)) * ofKind(kind, PRICE);
                if (kind == 0 || price < least) {
                    best = kind;
                    least = price;
                }
            }
            return best;
        }

        int longestRod(int b) {
            int longest = 0;
            for (int j = 0; j < ofBand(b, WEAVERS); j++) {
                longest = Math.max(longest, ofKind(kindOf(b, j), LENGTH));
            }
            return longest;
        }

        /** How much is left of 100, dry. */
        int driesTo(int kind) {
            return 100 - ofKind(kind, SHRINKS);
        }

        int heightOf(int b, boolean dry) {
            int sum = 0;
            for (int j = 0; j < ofBand(b, WEAVERS); j++) {
                int kind = kindOf(b, j);
                sum += ofKind(kind, THICK) * (dry ? driesTo(kind) : 100);
            }
            return sum * ofBand(b, ROUNDS);
        }

        int loosest() {
            int best = NONE;
            long bestSlack = 0;
            long bestWet = 1;
            for (int b = 0; b < bands; b++) {
                long wet = heightOf(b, false);
                long slack = wet - heightOf(b, true);
                if (best == NONE || slack * bestWet > bestSlack * wet) {
                    best = b;
                    bestSlack = slack;
                    bestWet = wet;
                }
            }
            return best;
        }

        int widthBehind(int b) {
            int width = wide;
            for (int each = 0; each <= b && each < bands; each++) {
                width = Math.max(1, width + ofBand(each, LEAN) * ofBand(each, ROUNDS));
            }
            return width;
        }

        int wanderFrom(int seed, int what) {
            int x = seed;
            int width = wide;
            int least = bands == 0 ? wide : GREAT;
            int greatest = bands == 0 ? wide : 0;
            for (int b = 0; b < bands; b++) {
                for (int r = 0; r < ofBand(b, ROUNDS); r++) {
                    x = drawn(x);
                    width = Math.max(1, width + ofBand(b, LEAN) + (x >>> 16) % 3 - 1);
                    least = Math.min(least, width);
                    greatest = Math.max(greatest, width);
                }
            }
            switch (what) {
                case 0: return width;
                case 1: return least;
                default: return greatest;
            }
        }
    }

    /** Reads THE BASKET's text, TOKEN by TOKEN, up to its first FAULT. */
    private static final class Reader {
        private static final int END = 0;
        private static final int WORD = 1;
        private static final int NUMBER = 2;
        private static final int SIGN = 3;
        private static final int MOST_DIGITS = 4;

        int faultKind;
        int faultPlace;
        private byte[] text;
        private int length;
        private int start;
        private int end;
        private int token;
        private int value;

        Reader() {
            faultPlace = NONE;
            text = new byte[0];
        }

        boolean readBasket(byte[] bytes, int n, Basket into) {
            text = bytes;
            length = Math.min(n, bytes.length);
            end = 0;
            faultKind = 0;
            faultPlace = NONE;
            into.clear();
            advance();
            for (int line = 0; line < TAPE_SIZE && faultKind == 0 && token != END; line++) {
                readLine(into);
                takeSign();
                into.lines++;
            }
            return faultKind == 0;
        }

        private void readLine(Basket into) {
            if (isWord("stakes")) {
                readStakes(into);
            } else if (isWord("rod")) {
                readRod(into);
            } else if (isWord("band")) {
                readBand(into);
            } else if (isWord("slip")) {
                readSlip(into);
            } else if (isWord("overlap")) {
                takeWord("overlap");
                into.overlap = takeNumber(0, MOST_OVERLAP);
            } else if (isWord("wide")) {
                takeWord("wide");
                into.wide = takeNumber(1, 999);
            } else {
                fail(2);
            }
        }

        private void readStakes(Basket into) {
            if (into.stakes != 0) {
                fail(4);
            }
            takeWord("stakes");
            into.stakes = takeNumber(3, 32);
        }

        private void readRod(Basket into) {
            if (into.kinds >= Basket.MOST_KINDS) {
                fail(4);
                return;
            }
            int at = into.kinds * Basket.KIND_SIZE;
            takeWord("rod");
            into.kindTable[at + Basket.LENGTH] = takeNumber(2, 99);
            takeWord("thick");
            into.kindTable[at + Basket.THICK] = takeNumber(1, 9);
            takeWord("shrinks");
            into.kindTable[at + Basket.SHRINKS] = takeNumber(0, 50);
            takeWord("price");
            into.kindTable[at + Basket.PRICE] = takeNumber(0, 99);
            into.kinds++;
        }

        private void readBand(Basket into) {
            if (into.stakes == 0) {
                fail(3);
                return;
            }
            if (into.bands >= Basket.MOST_BANDS) {
                fail(4);
                return;
            }
            int at = into.bands * Basket.BAND_SIZE;
            takeWord("band");
            int weavers = takeNumber(1, Basket.MOST_WEAVERS);
            into.bandTable[at + Basket.WEAVERS] = weavers;
            takeWord("before");
            into.bandTable[at + Basket.BEFORE] = takeNumber(1, 4);
            takeWord("behind");
            into.bandTable[at + Basket.BEHIND] = takeNumber(1, 4);
            takeWord("rounds");
            into.bandTable[at + Basket.ROUNDS] = takeNumber(1, 40);
            takeWord("from");
            into.bandTable[at + Basket.FROM] = takeNumber(0, into.stakes - 1);
            takeWord("with");
            for (int j = 0; j < weavers && j < Basket.MOST_WEAVERS; j++) {
                into.bandTable[at + Basket.WITH + j] = takeNumber(0, into.kinds - 1);
            }
            into.bandTable[at + Basket.LEFT] = takeLeft();
            into.bandTable[at + Basket.LEAN] = takeLean();
            into.bands++;
        }

        private int takeLeft() {
            if (!isWord("left")) {
                return 0;
            }
            takeWord("left");
            return 1;
        }

        private int takeLean() {
            if (isWord("out")) {
                takeWord("out");
                return takeNumber(0, 9);
            }
            if (isWord("in")) {
                takeWord("in");
                return -takeNumber(0, 9);
            }
            return 0;
        }

        private void readSlip(Basket into) {
            if (into.slips >= Basket.MOST_SLIPS) {
                fail(4);
                return;
            }
            int at = into.slips * Basket.SLIP_SIZE;
            takeWord("slip");
            int b = takeNumber(0, into.bands - 1);
            into.slipTable[at] = b;
            into.slipTable[at + 1] = takeNumber(0, into.ofBand(b, Basket.WEAVERS) - 1);
            into.slipTable[at + 2] = takeNumber(0, into.crossingsOf(b) - 1);
            into.slips++;
        }

        private void fail(int kind) {
            if (faultKind == 0) {
                faultKind = kind;
                faultPlace = start;
            }
        }

        private boolean isWord(String word) {
            if (faultKind != 0 || token != WORD || end - start != word.length()) {
                return false;
            }
            for (int k = 0; k < word.length(); k++) {
                if (byteAt(start + k) != word.charAt(k)) {
                    return false;
                }
            }
            return true;
        }

        private void takeWord(String word) {
            if (isWord(word)) {
                advance();
            } else {
                fail(2);
            }
        }

        private int takeNumber(int least, int most) {
            if (faultKind != 0 || token != NUMBER) {
                fail(2);
                return 0;
            }
            int number = value;
            if (number < least || number > most) {
                fail(3);
                return 0;
            }
            advance();
            return number;
        }

        private void takeSign() {
            if (faultKind == 0 && token == SIGN) {
                advance();
            } else {
                fail(2);
            }
        }

        /** NONE beyond the text, so that nothing there is taken for a sign. */
        private int byteAt(int at) {
            return at >= 0 && at < length ? text[at] : NONE;
        }

        private static boolean isLetter(int sign) {
            return sign >= 'a' && sign <= 'z';
        }

        private static boolean isDigit(int sign) {
            return sign >= '0' && sign <= '9';
        }

        private void advance() {
            start = end;
            while (start < length && (byteAt(start) == ' ' || byteAt(start) == '\n')) {
                start++;
            }
            end = start;
            int sign = byteAt(start);
            if (start >= length) {
                token = END;
            } else if (isLetter(sign)) {
                token = WORD;
                while (end < length && isLetter(byteAt(end))) {
                    end++;
                }
            } else if (isDigit(sign)) {
                token = NUMBER;
                value = 0;
                while (end < length && isDigit(byteAt(end))) {
                    // Longer ones are a FAULT anyway: the value may not run over.
                    if (end - start < MOST_DIGITS) {
                        value = value * 10 + byteAt(end) - '0';
                    }
                    end++;
                }
                if (end - start > MOST_DIGITS) {
                    fail(1);
                }
            } else if (sign == ';') {
                token = SIGN;
                end = start + 1;
            } else {
                fail(1);
            }
        }
    }

    /** What each weaver does, kept as bits by round, once a BAND was asked for. */
    private static final class Weave {
        private static final int MOST_ROWS = 160;

        private final Basket basket;
        private final int[] rows = new int[Basket.MOST_BANDS * MOST_ROWS];
        private final int[] toldShift = new int[Basket.MOST_WEAVERS];
        private final int[] ownShift = new int[Basket.MOST_WEAVERS];
        private final int[] tally = new int[Basket.MOST_KINDS];
        private int woven;

        Weave(Basket basket) {
            this.basket = basket;
        }

        void forget() {
            woven = 0;
        }

        /** Bit k: OVER at the k-th CROSSING of the row's weaver in the row's round. */
        private int rowBits(int b, int row) {
            if (!basket.hasBand(b) || row < 0 || row >= MOST_ROWS) {
                return 0;
            }
            if ((woven >>> b & 1) == 0) {
                for (int j = 0; j < basket.weaversOf(b); j++) {
                    weaveOne(b, j);
                }
                woven |= 1 << b;
            }
            return rows[b * MOST_ROWS + row];
        }

        private void weaveOne(int b, int j) {
            int before = basket.ofBand(b, Basket.BEFORE);
            int period = basket.periodOf(b);
            boolean slips = basket.slipsOfBand(b) > 0;
            int i = 0;
            int along = 0;
            int row = j;
            for (int r = 0; r < basket.ofBand(b, Basket.ROUNDS) && row < MOST_ROWS; r++) {
                int bits = 0;
                for (int k = 0; k < basket.stakes; k++) {
                    if (slips) {
                        along += basket.slipsAt(b, j, i);
                    }
                    along %= period;
                    if (along < before) {
                        bits |= 1 << k;
                    }
                    along++;
                    i++;
                }
                rows[b * MOST_ROWS + row] = bits;
                row += basket.weaversOf(b);
            }
        }

        boolean goesOver(int b, int j, int i) {
            int round = i / basket.ring();
            int bits = rowBits(b, round * basket.weaversOf(b) + j);
            return (bits >>> i - round * basket.ring() & 1) == 1;
        }

        private boolean overAt(int b, int row, int stake) {
            int j = row % basket.weaversOf(b);
            return (rowBits(b, row) >>> basket.offsetOf(b, j, stake) & 1) == 1;
        }

        int kindSeen(int b, int row, int stake, boolean inside) {
            if (overAt(b, row, stake) == inside) {
                return NONE;
            }
            return basket.kindOf(b, row % basket.weaversOf(b));
        }

        int oversAt(int b, int stake) {
            int found = 0;
            for (int row = 0; row < basket.rowsOf(b); row++) {
                if (overAt(b, row, stake)) {
                    found++;
                }
            }
            return found;
        }

        int longestRun(int b, int stake) {
            int longest = 0;
            int now = 0;
            boolean last = false;
            for (int row = 0; row < basket.rowsOf(b); row++) {
                boolean over = overAt(b, row, stake);
                now = row > 0 && over == last ? now + 1 : 1;
                last = over;
                longest = Math.max(longest, now);
            }
            return longest;
        }

        /** A row by STAKES, as if its BAND began from another one. */
        private int stakeBits(int b, int row, int from) {
            int n = basket.stakes;
            int j = row % basket.weaversOf(b);
            int bits = rowBits(b, row);
            if (basket.ofBand(b, Basket.LEFT) == 1) {
                return turned(mirrored(bits, n), from - j + 1, n);
            }
            return turned(bits, from + j, n);
        }

        int alike(int b, int nextFrom) {
            int last = stakeBits(b, basket.rowsOf(b) - 1, basket.ofBand(b, Basket.FROM));
            int first = stakeBits(b + 1, 0, nextFrom);
            return basket.stakes - Integer.bitCount(last ^ first);
        }

        int bestFrom(int b) {
            int best = 0;
            int least = alike(b, 0);
            for (int from = 1; from < basket.stakes; from++) {
                int now = alike(b, from);
                if (now < least) {
                    least = now;
                    best = from;
                }
            }
            return best;
        }

        int turnBetween(int b, int j, int r) {
            int row = r * basket.weaversOf(b) + j;
            int from = basket.ofBand(b, Basket.FROM);
            int now = stakeBits(b, row, from);
            int next = stakeBits(b, row + basket.weaversOf(b), from);
            for (int by = 0; by < basket.stakes; by++) {
                if (turned(now, by, basket.stakes) == next) {
                    return by;
                }
            }
            return NONE;
        }

        int rowsTillAgain(int b) {
            int all = basket.rowsOf(b);
            for (int by = basket.weaversOf(b); by < all; by += basket.weaversOf(b)) {
                if (sameBehind(b, by, all)) {
                    return by;
                }
            }
            return all;
        }

        private boolean sameBehind(int b, int by, int all) {
            for (int row = 0; row + by < all; row++) {
                if (rowBits(b, row) != rowBits(b, row + by)) {
                    return false;
                }
            }
            return true;
        }

        int mostSeen(int b, int stake, boolean inside) {
            Arrays.fill(tally, 0);
            for (int row = 0; row < basket.rowsOf(b); row++) {
                int kind = kindSeen(b, row, stake, inside);
                if (kind >= 0 && kind < tally.length) {
                    tally[kind]++;
                }
            }
            int best = 0;
            for (int kind = 1; kind < tally.length; kind++) {
                if (tally[kind] > tally[best]) {
                    best = kind;
                }
            }
            return tally[best] == 0 ? NONE : best;
        }

        int longStretches(int b, int most) {
            int found = 0;
            for (int j = 0; j < basket.ofBand(b, Basket.WEAVERS); j++) {
                int now = 0;
                boolean last = false;
                for (int i = 0; i < basket.crossingsOf(b); i++) {
                    boolean over = goesOver(b, j, i);
                    now = i > 0 && over == last ? now + 1 : 1;
                    last = over;
                    // A stretch counts once, when it grows beyond.
                    if (now == most + 1) {
                        found++;
                    }
                }
            }
            return found;
        }

        int learnerDoes(int b, int seed, int c, int what) {
            Arrays.fill(toldShift, 0);
            Arrays.fill(ownShift, 0);
            int weavers = Math.min(basket.ofBand(b, Basket.WEAVERS), ownShift.length);
            int period = basket.periodOf(b);
            int before = basket.ofBand(b, Basket.BEFORE);
            boolean slips = basket.slipsOfBand(b) > 0;
            int x = seed;
            int slipped = 0;
            int otherwise = 0;
            int first = NONE;
            for (int i = 0; i < basket.crossingsOf(b); i++) {
                for (int j = 0; j < weavers; j++) {
                    x = drawn(x);
                    if ((x >>> 16) % 100 < c) {
                        ownShift[j]++;
                        slipped++;
                    }
                    if (slips) {
                        toldShift[j] += basket.slipsAt(b, j, i);
                    }
                    int told = i + toldShift[j];
                    boolean overTold = told % period < before;
                    boolean overNow = (told + ownShift[j]) % period < before;
                    if (overTold != overNow) {
                        first = otherwise == 0 ? basket.whenOf(b, j, i) : first;
                        otherwise++;
                    }
                }
            }
            switch (what) {
                case 0: return slipped;
                case 1: return otherwise;
                default: return first;
            }
        }

        int joinsOf(int b, int lap, boolean onlySeen) {
            int found = 0;
            for (int j = 0; j < basket.ofBand(b, Basket.WEAVERS); j++) {
                int kind = basket.kindOf(b, j);
                int by = basket.rodStep(kind, lap);
                int rods = basket.rodsFor(kind, lap, basket.crossingsOf(b));
                for (int rod = 1; rod < rods; rod++) {
                    if (!onlySeen || goesOver(b, j, rod * by)) {
                        found++;
                    }
                }
            }
            return found;
        }

        int holdOf(int b) {
            int sum = 0;
            for (int j = 0; j < basket.ofBand(b, Basket.WEAVERS); j++) {
                int kind = basket.kindOf(b, j);
                sum += changesOf(b, j) * basket.ofKind(kind, Basket.THICK) * basket.driesTo(kind);
            }
            return sum;
        }

        private int changesOf(int b, int j) {
            int n = basket.ring();
            int changes = 0;
            int lastEnd = 0;
            for (int r = 0; r < basket.ofBand(b, Basket.ROUNDS); r++) {
                int bits = rowBits(b, r * basket.weaversOf(b) + j);
                changes += Integer.bitCount((bits ^ bits >>> 1) & maskOf(n) >>> 1);
                if (r > 0 && (bits & 1) != lastEnd) {
                    changes++;
                }
                lastEnd = bits >>> n - 1 & 1;
            }
            return changes;
        }
    }

    /** A WISH or a PRINT, by ROWS, as bits by STAKES; without rows there is none. */
    private static final class Picture {
        static final int MOST_ROWS = 8;
        static final int NO_KIND = -1;
        static final int MIXED = -2;

        int rows;
        /** Of a WISH: where a weaver is SEEN; of a PRINT: o. */
        final int[] overBits = new int[MOST_ROWS];
        /** Of a PRINT: u. */
        final int[] underBits = new int[MOST_ROWS];
        /** Of a WISH: the one KIND of a ROW, NO_KIND or MIXED. */
        final int[] rowKinds = new int[MOST_ROWS];

        void clear() {
            rows = 0;
        }

        void become(Picture other) {
            rows = other.rows;
            System.arraycopy(other.overBits, 0, overBits, 0, MOST_ROWS);
            System.arraycopy(other.underBits, 0, underBits, 0, MOST_ROWS);
            System.arraycopy(other.rowKinds, 0, rowKinds, 0, MOST_ROWS);
        }

        static boolean isPicture(byte[] text, int n, int stakes, boolean wish) {
            int wideRow = stakes + 1;
            if (n < wideRow || n > MOST_ROWS * wideRow || n > text.length || n % Math.max(1, wideRow) != 0) {
                return false;
            }
            int place = 0;
            for (int at = 0; at < n; at++) {
                boolean fine = place == stakes ? text[at] == ';' : isSign(text[at], wish);
                if (!fine) {
                    return false;
                }
                place = place == stakes ? 0 : place + 1;
            }
            return true;
        }

        private static boolean isSign(int sign, boolean wish) {
            if (wish) {
                return sign == '.' || sign >= '0' && sign <= '5';
            }
            return sign == 'o' || sign == 'u' || sign == '?';
        }

        /** The text was looked at by isPicture. */
        void take(byte[] text, int n, int stakes, boolean wish) {
            int wideRow = Math.max(1, stakes + 1);
            rows = Math.min(MOST_ROWS, n / wideRow);
            for (int row = 0; row < rows; row++) {
                overBits[row] = 0;
                underBits[row] = 0;
                rowKinds[row] = NO_KIND;
                for (int s = 0; s < stakes && row * wideRow + s < text.length; s++) {
                    int sign = text[row * wideRow + s];
                    if (wish) {
                        takeWished(row, 1 << s, sign);
                    } else {
                        takePrinted(row, 1 << s, sign);
                    }
                }
            }
        }

        private void takeWished(int row, int bit, int sign) {
            if (sign == '.') {
                return;
            }
            int kind = sign - '0';
            overBits[row] |= bit;
            rowKinds[row] = rowKinds[row] == NO_KIND || rowKinds[row] == kind ? kind : MIXED;
        }

        private void takePrinted(int row, int bit, int sign) {
            if (sign == 'o') {
                overBits[row] |= bit;
            } else if (sign == 'u') {
                underBits[row] |= bit;
            }
        }
    }

    /** Goes through all STROKES for a WISH or a PRINT, and keeps what was found till that changes. */
    private static final class Strokes {
        static final int WEAVERS = 0;
        static final int BEFORE = 1;
        static final int BEHIND = 2;
        static final int FROM = 3;
        static final int LEFT = 4;
        static final int HOW_MANY = 5;
        static final int KINDS = 6;
        static final int MISTAKES = 5;
        static final int FITTING = 6;
        static final int FITTING_LEFT = 7;
        private static final int READ_SIZE = 8;
        private static final int MOST_STROKE = 4;

        private final int[] plainRounds = new int[Picture.MOST_ROWS];
        private final int[] mirrorRounds = new int[Picture.MOST_ROWS];
        private final int[] overWanted = new int[Picture.MOST_ROWS];
        private final int[] underWanted = new int[Picture.MOST_ROWS];
        private final int[] now = new int[LEFT + 1];
        private final int[] maker = new int[KINDS + Basket.MOST_WEAVERS];
        private final int[] readings = new int[2 * READ_SIZE];
        private boolean makerKnown;
        private boolean readingsKnown;
        private int stakes;
        private int rows;

        void forgetWish() {
            makerKnown = false;
        }

        void forgetPrint() {
            readingsKnown = false;
        }

        int ofMaker(int what) {
            return what >= 0 && what < maker.length ? maker[what] : NONE;
        }

        int ofReader(int side, int what) {
            int at = side * READ_SIZE + what;
            return at >= 0 && at < readings.length ? readings[at] : NONE;
        }

        void makeKnown(Picture wish, int n) {
            if (makerKnown) {
                return;
            }
            makerKnown = true;
            Arrays.fill(maker, NONE);
            maker[HOW_MANY] = 0;
            stakes = n;
            rows = wish.rows;
            for (int row = 0; row < rows && row < Picture.MOST_ROWS; row++) {
                overWanted[row] = wish.overBits[row];
                underWanted[row] = maskOf(n) & ~wish.overBits[row];
            }
            for (int k = 1; k <= Basket.MOST_WEAVERS; k++) {
                if (rows % k == 0 && kindsAgree(wish, k)) {
                    makeWith(wish, k);
                }
            }
        }

        private static boolean kindsAgree(Picture wish, int k) {
            for (int j = 0; j < k; j++) {
                if (kindOfWeaver(wish, k, j) == Picture.MIXED) {
                    return false;
                }
            }
            return true;
        }

        private static int kindOfWeaver(Picture wish, int k, int j) {
            int kind = Picture.NO_KIND;
            for (int row = j; row < wish.rows && row < Picture.MOST_ROWS; row += Math.max(1, k)) {
                int here = wish.rowKinds[row];
                if (kind == Picture.NO_KIND) {
                    kind = here;
                } else if (here != Picture.NO_KIND && here != kind) {
                    return Picture.MIXED;
                }
            }
            return kind;
        }

        private void makeWith(Picture wish, int k) {
            begin(k);
            boolean more = true;
            for (int tried = 0; tried < 16 * 2 * 32 && more; tried++) {
                if (mistakesOf(0) == 0) {
                    if (maker[HOW_MANY] == 0) {
                        System.arraycopy(now, 0, maker, 0, now.length);
                        for (int j = 0; j < k; j++) {
                            maker[KINDS + j] = Math.max(0, kindOfWeaver(wish, k, j));
                        }
                    }
                    maker[HOW_MANY]++;
                }
                more = goOn();
            }
        }

        void readKnown(Picture print, int n) {
            if (readingsKnown) {
                return;
            }
            readingsKnown = true;
            Arrays.fill(readings, 0);
            stakes = n;
            rows = print.rows;
            for (int side = 0; side < 2; side++) {
                for (int row = 0; row < rows && row < Picture.MOST_ROWS; row++) {
                    int over = print.overBits[row];
                    int under = print.underBits[row];
                    overWanted[row] = side == 0 ? over : mirrored(under, n);
                    underWanted[row] = side == 0 ? under : mirrored(over, n);
                }
                readSide(side * READ_SIZE);
            }
        }

        private void readSide(int at) {
            readings[at + MISTAKES] = GREAT;
            for (int k = 1; k <= Basket.MOST_WEAVERS; k++) {
                if (rows % k == 0) {
                    readWith(k, at);
                }
            }
        }

        private void readWith(int k, int at) {
            begin(k);
            boolean more = true;
            for (int tried = 0; tried < 16 * 2 * 32 && more; tried++) {
                int mistakes = mistakesOf(readings[at + MISTAKES]);
                if (mistakes < readings[at + MISTAKES]) {
                    System.arraycopy(now, 0, readings, at, now.length);
                    readings[at + MISTAKES] = mistakes;
                }
                if (mistakes == 0) {
                    readings[at + FITTING]++;
                    readings[at + FITTING_LEFT] += now[LEFT];
                }
                more = goOn();
            }
        }

        private void begin(int k) {
            now[WEAVERS] = k;
            now[BEFORE] = 1;
            now[BEHIND] = 1;
            now[FROM] = 0;
            now[LEFT] = 0;
            weaveRounds();
        }

        /** The next STROKE of as many weavers; false behind the last one. */
        private boolean goOn() {
            now[LEFT]++;
            if (now[LEFT] < 2) {
                return true;
            }
            now[LEFT] = 0;
            now[FROM]++;
            if (now[FROM] < stakes) {
                return true;
            }
            now[FROM] = 0;
            now[BEHIND]++;
            if (now[BEHIND] > MOST_STROKE) {
                now[BEHIND] = 1;
                now[BEFORE]++;
            }
            if (now[BEFORE] > MOST_STROKE) {
                return false;
            }
            weaveRounds();
            return true;
        }

        private void weaveRounds() {
            int period = Math.max(1, now[BEFORE] + now[BEHIND]);
            int along = 0;
            for (int r = 0; r < rows / Math.max(1, now[WEAVERS]) && r < Picture.MOST_ROWS; r++) {
                int bits = 0;
                for (int k = 0; k < stakes; k++) {
                    if (along < now[BEFORE]) {
                        bits |= 1 << k;
                    }
                    along = along + 1 < period ? along + 1 : 0;
                }
                plainRounds[r] = bits;
                mirrorRounds[r] = mirrored(bits, stakes);
            }
        }

        /** Of this STROKE; more than enough, if they are more than that. */
        private int mistakesOf(int enough) {
            int mistakes = 0;
            int j = 0;
            int round = 0;
            for (int row = 0; row < rows && row < Picture.MOST_ROWS && mistakes <= enough; row++) {
                int bits = now[LEFT] == 1
                        ? turned(mirrorRounds[round], now[FROM] - j + 1, stakes)
                        : turned(plainRounds[round], now[FROM] + j, stakes);
                mistakes += Integer.bitCount(underWanted[row] & bits | overWanted[row] & ~bits);
                j++;
                if (j >= now[WEAVERS]) {
                    j = 0;
                    round++;
                }
            }
            return mistakes;
        }
    }

    /** HANDS, their WAYS, and who TAUGHT whom. */
    private static final class Hands {
        static final int MOST = 8;

        private final int[] ways = new int[MOST];
        private final int[] teachers = new int[MOST];

        Hands() {
            Arrays.fill(ways, NONE);
            Arrays.fill(teachers, NONE);
        }

        void become(Hands other) {
            System.arraycopy(other.ways, 0, ways, 0, MOST);
        }

        boolean isHand(int hand) {
            return hand >= 0 && hand < MOST;
        }

        boolean isTold(int hand) {
            return isHand(hand) && ways[hand] != NONE;
        }

        int tell(int hand, int bits) {
            if (!isHand(hand)) {
                return NONE;
            }
            int had = ways[hand];
            ways[hand] = bits;
            return had;
        }

        int teacherOf(int hand) {
            return isHand(hand) ? teachers[hand] : NONE;
        }

        /** In how many bits those that were taught differ from who taught them, together. */
        int teachAll() {
            int standing = 0;
            for (int hand = MOST - 1; hand >= 0; hand--) {
                teachers[hand] = NONE;
                standing = isTold(hand) ? 1 << hand : standing;
            }
            int all = 0;
            for (int turn = 1; turn < MOST && standing != 0; turn++) {
                int next = nextTaught(standing);
                if (next == NONE) {
                    return all;
                }
                standing |= 1 << next;
                all += Integer.bitCount(ways[next] ^ ways[teachers[next]]);
            }
            return all;
        }

        /** Names the teacher of the next one, too. */
        private int nextTaught(int standing) {
            int next = NONE;
            int least = MOST + 1;
            for (int old = 0; old < MOST; old++) {
                for (int young = 0; young < MOST; young++) {
                    boolean pair = (standing >>> old & 1) == 1 && (standing >>> young & 1) == 0;
                    if (pair && isTold(young) && Integer.bitCount(ways[old] ^ ways[young]) < least) {
                        least = Integer.bitCount(ways[old] ^ ways[young]);
                        next = young;
                        teachers[young] = old;
                    }
                }
            }
            return next;
        }
    }

    /** A ROW OF NUMBERS. */
    private static final class Numbers {
        static final int MOST = 40;

        int size;
        private int sort;
        private final long[] values = new long[MOST];

        Numbers() {
            size = NONE;
        }

        boolean isMissing() {
            return size == NONE;
        }

        void begin(int newSort, int n) {
            sort = newSort;
            size = Math.min(n, MOST);
            Arrays.fill(values, 0);
        }

        long put(int i, long v) {
            if (i < 0 || i >= size) {
                return 0;
            }
            values[i] = cut(v);
            return values[i];
        }

        private long cut(long v) {
            switch (sort) {
                case 0: return (byte) v;
                case 1: return (short) v;
                case 2: return (int) v;
                default: return v;
            }
        }

        boolean allWithin(long least, long most) {
            for (int i = 0; i < size; i++) {
                if (values[i] < least || values[i] > most) {
                    return false;
                }
            }
            return true;
        }

        /** For numbers that allWithin found small. */
        int intAt(int i) {
            return i >= 0 && i < size ? (int) values[i] : 0;
        }
    }

    /** What an image() keeps. */
    private static final class Image {
        boolean made;
        final Basket basket = new Basket();
        final Picture wished = new Picture();
        final Picture printed = new Picture();
        final Hands hands = new Hands();
    }

    /** A PLAIT: where its strands come to lie. */
    private static final class Plaiter {
        static final int MOST_STRANDS = 9;

        private final int[] places = new int[MOST_STRANDS];
        private final int[] left = new int[Numbers.MOST];

        void make(Numbers moves, int m) {
            for (int k = 0; k < places.length; k++) {
                places[k] = k;
            }
            for (int i = 0; i < moves.size; i++) {
                int number = moves.intAt(i);
                int k = number < 0 ? -1 - number : number;
                if (k < m - 1 && k + 1 < places.length) {
                    int strand = places[k];
                    places[k] = places[k + 1];
                    places[k + 1] = strand;
                }
            }
        }

        int strandAt(int k, int m) {
            return k >= 0 && k < m && k < places.length ? places[k] : NONE;
        }

        /** All strands are back when each ring of places has gone round a whole number of times. */
        int orderOf(int m) {
            int order = 1;
            for (int k = 0; k < m && k < places.length; k++) {
                int ring = ringOf(k);
                order = order / commonDivisor(order, ring) * ring;
            }
            return order;
        }

        private int ringOf(int k) {
            int at = places[k];
            int ring = 1;
            while (at != k && ring < MOST_STRANDS) {
                at = places[at];
                ring++;
            }
            return ring;
        }

        int leftOf(Numbers moves) {
            int kept = 0;
            for (int i = 0; i < moves.size && i < left.length; i++) {
                int number = moves.intAt(i);
                if (kept > 0 && left[kept - 1] == -1 - number) {
                    kept--;
                } else {
                    left[kept] = number;
                    kept++;
                }
            }
            return kept;
        }
    }

    /** EVEN: tries orders, the first ones first, and leaves off where no better one can come. */
    private static final class Evener {
        static final int MOST = 8;

        int least;
        private int size;
        private int sum;
        private final int[] thick = new int[MOST];
        private final int[] order = new int[MOST];
        private final int[] best = new int[MOST];

        int rodAtPlace(int k) {
            return k >= 0 && k < size ? best[k] : NONE;
        }

        void putRound(Numbers rods) {
            size = Math.min(MOST, rods.size);
            sum = 0;
            for (int k = 0; k < size; k++) {
                thick[k] = rods.intAt(k);
                sum += thick[k];
            }
            least = GREAT;
            // Turning the whole ring changes no difference: rod 0 lies first in the first order.
            order[0] = 0;
            putFrom(1, 1, 0);
        }

        private void putFrom(int place, int used, int worst) {
            if (place >= size || place >= MOST) {
                least = worst;
                System.arraycopy(order, 0, best, 0, MOST);
                return;
            }
            for (int rod = 1; rod < size; rod++) {
                if ((used >>> rod & 1) == 0) {
                    order[place] = rod;
                    int greatest = Math.max(worst, differenceAt(place));
                    if (greatest < least) {
                        putFrom(place + 1, used | 1 << rod, greatest);
                    }
                }
            }
        }

        /** Of the half of the ring that ends at a place; 0 if it isn't put yet. */
        private int differenceAt(int place) {
            int half = size / 2;
            if (place < half - 1 || place >= MOST) {
                return 0;
            }
            int twice = 0;
            for (int k = place - half + 1; k <= place; k++) {
                twice += 2 * thick[order[k]];
            }
            return Math.abs(twice - sum);
        }
    }

    /**
     * BOWL: from BAND to BAND the best way to each WIDTH and LEAN is kept as one number, the
     * differences high, the LEANS low (those of earlier BANDS higher), so that the least number
     * is the fewest differences and the first LEANS.
     */
    private static final class BowlMaker {
        private static final int LEANS = 19;
        /** Of each WIDTH a way by each LEAN, and the least of these. */
        private static final int ROW = LEANS + 1;
        /** No WIDTH is greater than wide 999 and 9 more by each of 40 rounds of each BAND. */
        private static final int MOST_ROOM = (999 + 9 * 40 * Basket.MOST_BANDS) * ROW;
        private static final int NO_LEANING = 9;
        private static final int COST_SHIFT = 40;
        private static final int LEAN_BITS = 5;
        private static final long NO_WAY = 0x7fffffffffffffffL;

        private int bands;
        private int wide;
        private int reach;
        private int bound;
        private final int[] rounds = new int[Basket.MOST_BANDS];
        private final int[] wishes = new int[Basket.MOST_BANDS];
        private final int[] low = new int[Basket.MOST_BANDS];
        private final int[] high = new int[Basket.MOST_BANDS];
        private final int[] sure = new int[Basket.MOST_BANDS];
        private final int[] sureBehind = new int[Basket.MOST_BANDS];
        private final int[] trialWidths = new int[LEANS];
        private final int[] trialCosts = new int[LEANS];
        private final int[] triedWidths = new int[LEANS];
        private final int[] triedCosts = new int[LEANS];
        private long[] now = new long[0];
        private long[] next = new long[0];
        private long best;

        int difference() {
            return (int) (best >>> COST_SHIFT);
        }

        int leanOf(int b) {
            return (int) (best >>> leanShift(b) & 31) - NO_LEANING;
        }

        private static int leanShift(int b) {
            return LEAN_BITS * (Basket.MOST_BANDS - 1 - b);
        }

        void make(Basket basket, Numbers row, int d) {
            bands = Math.min(basket.bands, Basket.MOST_BANDS);
            wide = basket.wide;
            reach = d;
            for (int b = 0; b < bands; b++) {
                rounds[b] = basket.ofBand(b, Basket.ROUNDS);
                wishes[b] = row.intAt(b);
            }
            setRanges();
            bound = costOfTrial();
            narrowRanges();
            makeRoom();
            emptyNext(0);
            for (int l = 0; l < LEANS; l++) {
                goTo(0, widthBy(wide, l, 0), l, 0);
            }
            for (int b = 1; b < bands; b++) {
                takeNext();
                goOn(b);
            }
            takeNext();
            best = NO_WAY;
            for (int at = 0; at < rowsOf(bands - 1); at++) {
                best = Math.min(best, wayAt(at * ROW + LEANS));
            }
        }

        /** The WIDTHS that LEANS can make at all, and the differences that no LEANS can spare. */
        private void setRanges() {
            int least = wide;
            int most = wide;
            for (int b = 0; b < bands; b++) {
                least = Math.max(1, least - NO_LEANING * rounds[b]);
                most += NO_LEANING * rounds[b];
                low[b] = least;
                high[b] = most;
                sure[b] = Math.max(0, Math.max(least - wishes[b], wishes[b] - most));
            }
            int behind = 0;
            for (int b = bands - 1; b >= 0; b--) {
                sureBehind[b] = behind;
                behind += sure[b];
            }
        }

        /** Of ways that can be made, by each LEAN the one that is best so far: none worse is worth a look. */
        private int costOfTrial() {
            for (int l = 0; l < LEANS; l++) {
                trialWidths[l] = widthBy(wide, l, 0);
                trialCosts[l] = Math.abs(trialWidths[l] - wishes[0]);
            }
            for (int b = 1; b < bands; b++) {
                for (int l = 0; l < LEANS; l++) {
                    tryLean(b, l);
                }
                System.arraycopy(triedWidths, 0, trialWidths, 0, LEANS);
                System.arraycopy(triedCosts, 0, trialCosts, 0, LEANS);
            }
            int least = trialCosts[0];
            for (int l = 1; l < LEANS; l++) {
                least = Math.min(least, trialCosts[l]);
            }
            return least;
        }

        private void tryLean(int b, int l) {
            int least = GREAT;
            for (int k = Math.max(0, l - reach); k <= Math.min(LEANS - 1, l + reach); k++) {
                int width = widthBy(trialWidths[k], l, b);
                int cost = trialCosts[k] + Math.abs(width - wishes[b]);
                if (cost < least) {
                    least = cost;
                    triedWidths[l] = width;
                    triedCosts[l] = cost;
                }
            }
        }

        private int widthBy(int width, int l, int b) {
            return Math.max(1, width + (l - NO_LEANING) * rounds[b]);
        }

        private void narrowRanges() {
            int spare = bound;
            for (int b = 0; b < bands; b++) {
                spare -= sure[b];
            }
            for (int b = 0; b < bands; b++) {
                low[b] = Math.max(low[b], wishes[b] - spare - sure[b]);
                high[b] = Math.min(high[b], wishes[b] + spare + sure[b]);
            }
        }

        private void makeRoom() {
            int most = 1;
            for (int b = 0; b < bands; b++) {
                most = Math.max(most, rowsOf(b));
            }
            if (now.length < most * ROW) {
                // Twice as much as before at least, so that a run of bowls makes few rows in all.
                int room = Math.min(MOST_ROOM, Math.max(most * ROW, 2 * now.length));
                now = new long[room];
                next = new long[room];
            }
        }

        /** How many WIDTHS are looked at behind a BAND. */
        private int rowsOf(int b) {
            return b < 0 || b >= bands ? 0 : Math.max(0, high[b] - low[b] + 1);
        }

        private long wayAt(int at) {
            return at >= 0 && at < now.length ? now[at] : NO_WAY;
        }

        private void emptyNext(int b) {
            Arrays.fill(next, 0, Math.min(next.length, ROW * rowsOf(b)), NO_WAY);
        }

        private void takeNext() {
            long[] old = now;
            now = next;
            next = old;
        }

        private void goOn(int b) {
            emptyNext(b);
            for (int row = 0; row < rowsOf(b - 1); row++) {
                int at = row * ROW;
                long least = wayAt(at + LEANS);
                if (least != NO_WAY) {
                    goOnFrom(b, low[b - 1] + row, at, least);
                }
            }
        }

        private void goOnFrom(int b, int width, int at, long least) {
            int leastLean = (int) (least >>> leanShift(b - 1) & 31);
            for (int l = 0; l < LEANS; l++) {
                long way = Math.abs(l - leastLean) <= reach ? least : leastNear(at, l);
                if (way != NO_WAY) {
                    goTo(b, widthBy(width, l, b), l, way);
                }
            }
        }

        private long leastNear(int at, int l) {
            long least = NO_WAY;
            int last = Math.min(LEANS - 1, l + reach);
            for (int k = Math.max(0, l - reach); k <= last; k++) {
                least = Math.min(least, wayAt(at + k));
            }
            return least;
        }

        private void goTo(int b, int width, int l, long way) {
            int row = (width - low[b]) * ROW;
            if (width < low[b] || width > high[b] || row + LEANS >= next.length) {
                return;
            }
            long cost = Math.abs(width - wishes[b]);
            long further = way + (cost << COST_SHIFT) + ((long) l << leanShift(b));
            if ((further >>> COST_SHIFT) + sureBehind[b] <= bound) {
                next[row + l] = Math.min(next[row + l], further);
                next[row + LEANS] = Math.min(next[row + LEANS], further);
            }
        }
    }
}
