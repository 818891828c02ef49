/** Clocks of candles that burn unevenly; ../shared/DOC.md says what each call promises. */
public final class UnevenWax {
    public static final int NONE = -1;

    private static final int NO_SUCH = -2;
    private static final int BAD_NUMBER = -3;
    private static final int NOT_NOW = -5;
    private static final int MISSING = -6;
    private static final int NO_PLACE = -7;
    private static final int FAULTY = -30;

    private static final int MOST_BYTES = 400;
    private static final int MOST_CANDLES = 8;
    private static final int MOST_PIECES = 6;
    private static final int MOST_MINUTES = 60;
    private static final int MOST_WAX = 999;
    private static final int MOST_DRAUGHT = 50;
    private static final int USUAL_WAX = 60;
    private static final int MOST_RULES = 20;
    private static final int MOST_ACTS = 40;
    private static final int PLANS = 4;
    private static final int ROWS = 4;
    private static final int SORTS = 4;
    private static final int MOST_NUMBERS = 40;
    private static final int IMAGES = 2;
    private static final int MOST_DAYS = 400;
    private static final int MOST_REST = 200000;
    private static final int MOST_OF_SET = 4;
    private static final int LEAST_STEP = 64;

    private static final int SPARKS = 256;

    // Draughts leave odd RESTS; each of at most eight ends may halve them once more, so that
    // 256 grains to a SPARK keep every time of a RUN whole.
    private static final int GRAINS = 256;
    // Above every time of a RUN (eight candles hold some 1.1 million SPARKS), and still an int in grains.
    private static final int LATE_SPARKS = 4000000;
    private static final int FOREVER = LATE_SPARKS * GRAINS;

    // Each MOMENT halves at most once what is left, and a set has at most four of them: 256 / 16.
    private static final int GRID = 16;
    private static final int MOST_MARKS = MOST_OF_SET * MOST_PIECES * MOST_MINUTES * SPARKS / GRID + 1;

    private static final int LIGHT = 0;
    private static final int BOTH = 1;
    private static final int OUT = 2;
    private static final int JOIN = 3;
    private static final int BELL = 4;

    private int tapeSize;
    private final Reader reader = new Reader();
    private final Cellar draftCellar = new Cellar();
    private final Plan draftPlan = new Plan();
    private final Book book = new Book();
    private final Book[] images = new Book[IMAGES];
    private final Row[] rows = new Row[ROWS];
    private final Run run = new Run();
    private final int[] keptBells = new int[MOST_ACTS];
    private final Offs offs = new Offs();
    private final Ways ways = new Ways();
    private final Along alongWays = new Along();
    private final Marks toldKeeping = new Marks();
    private final Marks toldPuttingOut = new Marks();
    private final Marks toldAlong = new Marks();

    public UnevenWax() {
        for (int i = 0; i < ROWS; i++) {
            rows[i] = new Row();
        }
    }

    // ---- texts

    public int feed(int a, int b, int c, int d, int e) {
        if (tapeSize + 20 > MOST_BYTES) {
            return NOT_NOW;
        }
        putBytes(a);
        putBytes(b);
        putBytes(c);
        putBytes(d);
        putBytes(e);
        return tapeSize;
    }

    private void putBytes(int four) {
        for (int shift = 24; shift >= 0; shift -= 8) {
            if (tapeSize < MOST_BYTES) {
                reader.tape[tapeSize] = (four >>> shift) & 255;
                tapeSize++;
            }
        }
    }

    public int cellar(int n) {
        if (n < 0 || n > tapeSize) {
            return BAD_NUMBER;
        }
        tapeSize = 0;
        if (!reader.readCellar(draftCellar, n)) {
            return FAULTY - reader.fault;
        }
        book.cellar.takeFrom(draftCellar);
        forgetCellar();
        return book.cellar.candles;
    }

    public int plan(int p, int n) {
        if (!isPlan(p)) {
            return NO_SUCH;
        }
        if (n < 0 || n > tapeSize) {
            return BAD_NUMBER;
        }
        tapeSize = 0;
        if (!reader.readPlan(draftPlan, n)) {
            return FAULTY - reader.fault;
        }
        book.plans[p].takeFrom(draftPlan);
        offs.ofPlan = NONE;
        return book.plans[p].rules;
    }

    public int fault(int what) {
        if (what == 0) {
            return reader.fault;
        }
        return what == 1 ? reader.place : NONE;
    }

    public int candle(int c, int what) {
        Cellar cellar = book.cellar;
        if (!cellar.has(c)) {
            return NO_SUCH;
        }
        if (what == 0) {
            return cellar.pieces[c];
        }
        if (what == 1) {
            return cellar.sparksOf(c) / SPARKS;
        }
        if (what == 2) {
            return cellar.wax[c];
        }
        if (what == 3) {
            return cellar.draught[c];
        }
        if (what < 10 || what - 10 >= cellar.pieces[c]) {
            return NO_SUCH;
        }
        return cellar.sparksOfPiece(c, what - 10) / SPARKS;
    }

    /** What was worked out from the cellar that was is of no use any more. */
    private void forgetCellar() {
        offs.ofPlan = NONE;
        toldKeeping.ofSet = 0;
        toldPuttingOut.ofSet = 0;
        toldAlong.ofSet = 0;
    }

    private static boolean isPlan(int p) {
        return p >= 0 && p < PLANS;
    }

    // ---- along a candle

    public int length(int c, int sparks) {
        Cellar cellar = book.cellar;
        if (!cellar.has(c)) {
            return NO_SUCH;
        }
        if (sparks < 0 || sparks > cellar.sparksOf(c)) {
            return BAD_NUMBER;
        }
        return cellar.thousandths(c, sparks, true);
    }

    public int meet(int c) {
        Cellar cellar = book.cellar;
        if (!cellar.has(c)) {
            return NO_SUCH;
        }
        return cellar.thousandths(c, cellar.sparksOf(c) / 2, false);
    }

    public int halves(int c) {
        Cellar cellar = book.cellar;
        if (!cellar.has(c)) {
            return NO_SUCH;
        }
        int sum = 0;
        for (int i = 0; i < cellar.pieces[c]; i++) {
            int halfPieces = Math.max(0, Math.min(2, cellar.pieces[c] - 2 * i));
            sum += cellar.sparksOfPiece(c, i) / 2 * halfPieces;
        }
        return sum;
    }

    public int piece(int c, int sparks, boolean fromEnd) {
        Cellar cellar = book.cellar;
        if (!cellar.has(c)) {
            return NO_SUCH;
        }
        if (sparks < 0 || sparks > cellar.sparksOf(c)) {
            return BAD_NUMBER;
        }
        return cellar.nextPiece(c, sparks, fromEnd);
    }

    // ---- runs

    public int run(int p, int what) {
        if (!isPlan(p) || what < 0 || what > 4) {
            return NO_SUCH;
        }
        playAsTold(p);
        switch (what) {
            case 0:
                return run.bellCount;
            case 1:
                return run.now / GRAINS;
            case 2:
                return Long.bitCount(run.vain);
            case 3:
                return run.lit;
            default:
                return waxOfRun();
        }
    }

    private void playAsTold(int p) {
        run.lay(book.cellar);
        run.play(book.plans[p], NONE, FOREVER);
    }

    private int waxOfRun() {
        int sum = 0;
        for (int c = 0; c < book.cellar.candles; c++) {
            long all = run.first[c];
            if (all > 0) {
                sum += (int) (book.cellar.wax[c] * (all - run.own[c]) / all);
            }
        }
        return sum;
    }

    public int bell(int p, int k) {
        if (!isPlan(p)) {
            return NO_SUCH;
        }
        playAsTold(p);
        return run.bellAt(k);
    }

    public int ends(int p, int c) {
        if (!isPlan(p) || !book.cellar.has(c)) {
            return NO_SUCH;
        }
        playAsTold(p);
        return run.endAt[c] == NONE ? NONE : run.endAt[c] / GRAINS;
    }

    public int rest(int p, int c, int time) {
        if (!isPlan(p) || !book.cellar.has(c)) {
            return NO_SUCH;
        }
        if (time < 0) {
            return BAD_NUMBER;
        }
        playUntil(p, time);
        return run.rest[c] / GRAINS;
    }

    public int flames(int p, int c, int time) {
        if (!isPlan(p) || !book.cellar.has(c)) {
            return NO_SUCH;
        }
        if (time < 0) {
            return BAD_NUMBER;
        }
        playUntil(p, time);
        return run.flames[c];
    }

    private void playUntil(int p, int time) {
        run.lay(book.cellar);
        run.play(book.plans[p], NONE, Math.min(time, LATE_SPARKS) * GRAINS);
    }

    public int idle(int p) {
        if (!isPlan(p)) {
            return NO_SUCH;
        }
        playAsTold(p);
        return ((1 << book.plans[p].rules) - 1) & ~run.doneRules;
    }

    public int vain(int p, int k) {
        if (!isPlan(p)) {
            return NO_SUCH;
        }
        playAsTold(p);
        int seen = 0;
        for (int i = 0; i < MOST_ACTS; i++) {
            if ((run.vain >>> i & 1L) != 0) {
                if (seen == k) {
                    return i;
                }
                seen++;
            }
        }
        return NONE;
    }

    public int spare(int p, int k) {
        if (!isPlan(p)) {
            return NO_SUCH;
        }
        playAsTold(p);
        int kept = keepBells();
        int seen = 0;
        for (int i = 0; i < book.plans[p].acts; i++) {
            run.play(book.plans[p], i, FOREVER);
            if (ringsAsKept(kept)) {
                if (seen == k) {
                    return i;
                }
                seen++;
            }
        }
        return NONE;
    }

    private int keepBells() {
        System.arraycopy(run.bells, 0, keptBells, 0, MOST_ACTS);
        return run.bellCount;
    }

    private boolean ringsAsKept(int kept) {
        if (run.bellCount != kept) {
            return false;
        }
        for (int i = 0; i < run.bellCount; i++) {
            if (run.bells[i] != keptBells[i]) {
                return false;
            }
        }
        return true;
    }

    public int would(int p, int k, int c, int more) {
        if (!isPlan(p) || !book.cellar.has(c)) {
            return NO_SUCH;
        }
        long sparks = (long) book.cellar.sparksOf(c) + more;
        if (sparks < 1 || sparks > MOST_REST) {
            return BAD_NUMBER;
        }
        run.lay(book.cellar);
        run.first[c] = (int) sparks * GRAINS;
        run.play(book.plans[p], NONE, FOREVER);
        return run.bellAt(k);
    }

    public int off(int p, int k, int what) {
        if (!isPlan(p) || what < 0 || what > 1) {
            return NO_SUCH;
        }
        if (k < 0) {
            return BAD_NUMBER;
        }
        if (offs.ofPlan != p) {
            offs.tryAll(run, book.cellar, book.plans[p]);
            offs.ofPlan = p;
        }
        if (k >= offs.most) {
            return NONE;
        }
        return (what == 0 ? offs.low[k] : offs.high[k]) / GRAINS;
    }

    public int night(int p, int seed, int k) {
        if (!isPlan(p)) {
            return NO_SUCH;
        }
        run.lay(book.cellar);
        int x = seed;
        for (int c = 0; c < book.cellar.candles; c++) {
            x = 1103515245 * x + 12345;
            int draught = book.cellar.draught[c];
            int percent = 100 + (x >>> 16) % (2 * draught + 1) - draught;
            run.first[c] = book.cellar.sparksOf(c) * percent / 100 * GRAINS;
        }
        run.play(book.plans[p], NONE, FOREVER);
        return run.bellAt(k);
    }

    public int chime(int p, int q) {
        if (!isPlan(p) || !isPlan(q)) {
            return NO_SUCH;
        }
        playAsTold(p);
        int kept = keepBells();
        playAsTold(q);
        int pairs = 0;
        for (int i = 0; i < kept; i++) {
            for (int j = 0; j < run.bellCount; j++) {
                if (keptBells[i] == run.bells[j]) {
                    pairs++;
                }
            }
        }
        return pairs;
    }

    public int days(int p, int days, int what) {
        if (!isPlan(p) || what != NONE && !book.cellar.has(what)) {
            return NO_SUCH;
        }
        if (days < 1 || days > MOST_DAYS) {
            return BAD_NUMBER;
        }
        playAsTold(p);
        if (what == NONE) {
            return waxOfRun() * days;
        }
        return run.own[what] < run.first[what] ? days : 0;
    }

    // ---- what can be told

    public int can(int set, boolean out, int time) {
        if (!isSet(set, MOST_OF_SET) || time < 1) {
            return BAD_NUMBER;
        }
        return isTold(set, out, time) ? 1 : 0;
    }

    private boolean isSet(int set, int most) {
        return set > 0 && set < 1 << book.cellar.candles && Integer.bitCount(set) <= most;
    }

    private boolean isTold(int set, boolean out, int time) {
        Marks marks = out ? toldPuttingOut : toldKeeping;
        if (marks.ofSet == set) {
            return marks.has(time);
        }
        ways.lay(book.cellar, set, out);
        return ways.seek(Ways.REACH, time);
    }

    private Marks allTold(int set, boolean out) {
        Marks marks = out ? toldPuttingOut : toldKeeping;
        if (marks.ofSet != set) {
            marks.clear();
            ways.lay(book.cellar, set, out);
            ways.markAll(marks);
            marks.ofSet = set;
        }
        return marks;
    }

    public int time(int set, boolean out, int k) {
        if (!isSet(set, MOST_OF_SET)) {
            return BAD_NUMBER;
        }
        return pick(allTold(set, out), k);
    }

    private static int pick(Marks marks, int k) {
        return k == NONE ? marks.size() : marks.nth(k);
    }

    public int between(int set, boolean out, int time) {
        if (!isSet(set, MOST_OF_SET) || time < 1) {
            return BAD_NUMBER;
        }
        ways.lay(book.cellar, set, out);
        return ways.seek(Ways.BETWEEN, time) ? 1 : 0;
    }

    public int least(int time, boolean out, int what) {
        if (what < 0 || what > 1) {
            return NO_SUCH;
        }
        if (time < 1) {
            return BAD_NUMBER;
        }
        for (int size = 1; size <= MOST_OF_SET; size++) {
            for (int set = 1; set < 1 << book.cellar.candles; set++) {
                if (Integer.bitCount(set) == size && isTold(set, out, time)) {
                    return what == 0 ? size : set;
                }
            }
        }
        return NONE;
    }

    public int fewest(int set, boolean out, int time) {
        if (!isSet(set, MOST_OF_SET) || time < 1) {
            return BAD_NUMBER;
        }
        ways.lay(book.cellar, set, out);
        return ways.seek(Ways.FEWEST, time) ? ways.best : NONE;
    }

    public int burnt(int set, boolean out, int time) {
        if (!isSet(set, MOST_OF_SET) || time < 1) {
            return BAD_NUMBER;
        }
        ways.lay(book.cellar, set, out);
        return ways.seek(Ways.BURNT, time) ? ways.best : NONE;
    }

    public int given(int set, boolean out, int time, int k) {
        if (!isSet(set, MOST_OF_SET) || time < 1) {
            return BAD_NUMBER;
        }
        ways.lay(book.cellar, set, out);
        if (!ways.seek(Ways.REACH, time)) {
            return NONE;
        }
        return k == NONE ? ways.reached : ways.digits(k);
    }

    public int lacks(int set, boolean out, int step, int k) {
        if (!isSet(set, MOST_OF_SET) || step < LEAST_STEP) {
            return BAD_NUMBER;
        }
        Marks marks = allTold(set, out);
        int all = book.cellar.sparksOfSet(set);
        int seen = 0;
        for (int i = 1; i <= all / step; i++) {
            if (!marks.has(i * step)) {
                if (seen == k) {
                    return i * step;
                }
                seen++;
            }
        }
        return k == NONE ? seen : NONE;
    }

    public int together(int set, boolean out, int row) {
        if (!isRow(row)) {
            return NO_SUCH;
        }
        if (!rows[row].there) {
            return MISSING;
        }
        if (!isSet(set, MOST_OF_SET)) {
            return BAD_NUMBER;
        }
        return ways.want(rows[row]) && areTogether(set, out) ? 1 : 0;
    }

    private boolean areTogether(int set, boolean out) {
        ways.lay(book.cellar, set, out);
        return ways.seekWanted();
    }

    public int leastFor(int row, boolean out) {
        if (!isRow(row)) {
            return NO_SUCH;
        }
        if (!rows[row].there) {
            return MISSING;
        }
        if (!ways.want(rows[row])) {
            return NONE;
        }
        for (int size = 1; size <= MOST_OF_SET; size++) {
            for (int set = 1; set < 1 << book.cellar.candles; set++) {
                if (Integer.bitCount(set) == size && areTogether(set, out)) {
                    return set;
                }
            }
        }
        return NONE;
    }

    public int nearest(int set, boolean out, int time) {
        if (!isSet(set, MOST_OF_SET) || time < 1) {
            return BAD_NUMBER;
        }
        Marks marks = allTold(set, out);
        int below = marks.lastUpTo(time);
        int above = marks.firstFrom(time);
        if (below == NONE || above == NONE) {
            return Math.max(below, above);
        }
        return time - below <= above - time ? below : above;
    }

    public int along(int set, int time) {
        if (!isSet(set, Along.MOST) || time < 1) {
            return BAD_NUMBER;
        }
        return allAlong(set).has(time) ? 1 : 0;
    }

    public int alongs(int set, int k) {
        if (!isSet(set, Along.MOST)) {
            return BAD_NUMBER;
        }
        return pick(allAlong(set), k);
    }

    private Marks allAlong(int set) {
        if (toldAlong.ofSet != set) {
            toldAlong.clear();
            alongWays.lay(book.cellar, set);
            alongWays.markAll(toldAlong);
            toldAlong.ofSet = set;
        }
        return toldAlong;
    }

    // ---- offices, logs, thieves

    public int serves(int p, int row, int sparks) {
        if (!isPlan(p) || !isRow(row)) {
            return NO_SUCH;
        }
        if (!rows[row].there) {
            return MISSING;
        }
        if (sparks < 0) {
            return BAD_NUMBER;
        }
        return served(p, rows[row], sparks);
    }

    private int served(int p, Row offices, int sparks) {
        playAsTold(p);
        int sum = 0;
        for (int i = 0; i < offices.size; i++) {
            if (run.bellNear(0, offices.numbers[i], sparks) != NONE) {
                sum++;
            }
        }
        return sum;
    }

    public int fittest(int row, int sparks) {
        if (!isRow(row)) {
            return NO_SUCH;
        }
        if (!rows[row].there) {
            return MISSING;
        }
        if (sparks < 0) {
            return BAD_NUMBER;
        }
        int most = NONE;
        int fittest = NONE;
        for (int p = 0; p < PLANS; p++) {
            int served = served(p, rows[row], sparks);
            if (served > most) {
                most = served;
                fittest = p;
            }
        }
        return fittest;
    }

    public int log(int row) {
        if (!isRow(row)) {
            return NO_SUCH;
        }
        return rows[row].there ? plansOfLog(rows[row], 0) : MISSING;
    }

    public int nearly(int row, int sparks) {
        if (!isRow(row)) {
            return NO_SUCH;
        }
        if (!rows[row].there) {
            return MISSING;
        }
        return sparks < 0 ? BAD_NUMBER : plansOfLog(rows[row], sparks);
    }

    private int plansOfLog(Row log, int sparks) {
        int plans = 0;
        for (int p = 0; p < PLANS; p++) {
            playAsTold(p);
            if (heard(log, sparks) != NONE) {
                plans |= 1 << p;
            }
        }
        return plans;
    }

    /** The BELLS of the run that a log takes, the earliest ones, as bits; NONE if it can't be of them. */
    private long heard(Row log, int sparks) {
        long heard = 0;
        int from = 0;
        for (int i = 0; i < log.size; i++) {
            int k = run.bellNear(from, log.numbers[i], sparks);
            if (k == NONE) {
                return NONE;
            }
            heard |= 1L << k;
            from = k + 1;
        }
        return heard;
    }

    public int missed(int p, int row, int k) {
        if (!isPlan(p) || !isRow(row)) {
            return NO_SUCH;
        }
        if (!rows[row].there) {
            return MISSING;
        }
        playAsTold(p);
        long heard = heard(rows[row], 0);
        if (heard == NONE) {
            return NONE;
        }
        int seen = 0;
        for (int i = 0; i < run.bellCount; i++) {
            if ((heard >>> i & 1L) == 0) {
                if (seen == k) {
                    return i;
                }
                seen++;
            }
        }
        return k == NONE ? seen : NONE;
    }

    public int stolen(int p, int row) {
        if (!isPlan(p) || !isRow(row)) {
            return NO_SUCH;
        }
        if (!rows[row].there) {
            return MISSING;
        }
        playAsTold(p);
        int bits = 0;
        int candles = Math.min(rows[row].size, book.cellar.candles);
        for (int c = 0; c < candles; c++) {
            if (rows[row].numbers[c] < run.rest[c] / GRAINS) {
                bits |= 1 << c;
            }
        }
        return bits;
    }

    // ---- rows of numbers, images

    private static boolean isRow(int row) {
        return row >= 0 && row < ROWS;
    }

    public int numbers(int row, int sort, int n) {
        if (!isRow(row) || sort < 0 || sort >= SORTS) {
            return NO_SUCH;
        }
        if (n < 0 || n > MOST_NUMBERS) {
            return BAD_NUMBER;
        }
        rows[row].begin(sort, n);
        return 0;
    }

    public long write(int row, int i, long v) {
        if (!isRow(row)) {
            return NO_SUCH;
        }
        if (!rows[row].there) {
            return MISSING;
        }
        if (i < 0 || i >= rows[row].size) {
            return NO_PLACE;
        }
        rows[row].put(i, v);
        return rows[row].numbers[i];
    }

    public int copy(int p, int row) {
        if (!isPlan(p) || !isRow(row)) {
            return NO_SUCH;
        }
        if (!rows[row].there) {
            return MISSING;
        }
        playAsTold(p);
        if (run.bellCount > rows[row].size) {
            return NO_PLACE;
        }
        for (int k = 0; k < run.bellCount; k++) {
            rows[row].put(k, run.bellAt(k));
        }
        return run.bellCount;
    }

    public int image(int i) {
        if (i < 0 || i >= IMAGES) {
            return NO_SUCH;
        }
        if (images[i] == null) {
            images[i] = new Book();
        }
        images[i].takeFrom(book);
        return 0;
    }

    public int restore(int i) {
        if (i < 0 || i >= IMAGES) {
            return NO_SUCH;
        }
        if (images[i] == null) {
            return NOT_NOW;
        }
        book.takeFrom(images[i]);
        forgetCellar();
        return 0;
    }

    public int count(int what) {
        if (what == 0 || what == 6) {
            return book.cellar.candles;
        }
        if (what >= 1 && what <= PLANS) {
            return book.plans[what - 1].rules;
        }
        if (what == 5) {
            return tapeSize;
        }
        return what == 7 ? book.cellar.allWax() : NONE;
    }

    // ---- classes inside

    private static final class Cellar {
        int candles;
        final int[] pieces = new int[MOST_CANDLES];
        final int[] minutes = new int[MOST_CANDLES * MOST_PIECES];
        final int[] wax = new int[MOST_CANDLES];
        final int[] draught = new int[MOST_CANDLES];

        boolean has(int c) {
            return c >= 0 && c < candles;
        }

        void takeFrom(Cellar other) {
            candles = other.candles;
            System.arraycopy(other.pieces, 0, pieces, 0, MOST_CANDLES);
            System.arraycopy(other.minutes, 0, minutes, 0, MOST_CANDLES * MOST_PIECES);
            System.arraycopy(other.wax, 0, wax, 0, MOST_CANDLES);
            System.arraycopy(other.draught, 0, draught, 0, MOST_CANDLES);
        }

        /** A candle comes behind the others, without pieces yet; its number, or NONE. */
        int open() {
            if (candles >= MOST_CANDLES) {
                return NONE;
            }
            pieces[candles] = 0;
            wax[candles] = USUAL_WAX;
            draught[candles] = 0;
            candles++;
            return candles - 1;
        }

        boolean addPiece(int c, int length) {
            if (!has(c) || pieces[c] >= MOST_PIECES) {
                return false;
            }
            minutes[c * MOST_PIECES + pieces[c]] = length;
            pieces[c]++;
            return true;
        }

        int sparksOfPiece(int c, int k) {
            if (!has(c) || k < 0 || k >= pieces[c]) {
                return 0;
            }
            return minutes[c * MOST_PIECES + k] * SPARKS;
        }

        int sparksBefore(int c, int k) {
            int sum = 0;
            for (int i = 0; i < k && i < MOST_PIECES; i++) {
                sum += sparksOfPiece(c, i);
            }
            return sum;
        }

        int sparksOf(int c) {
            return sparksBefore(c, MOST_PIECES);
        }

        int sparksOfSet(int set) {
            int sum = 0;
            for (int c = 0; c < candles; c++) {
                if ((set >> c & 1) != 0) {
                    sum += sparksOf(c);
                }
            }
            return sum;
        }

        int allWax() {
            int sum = 0;
            for (int c = 0; c < candles; c++) {
                sum += wax[c];
            }
            return sum;
        }

        int nextPiece(int c, int sparks, boolean fromEnd) {
            if (!has(c)) {
                return NONE;
            }
            int left = sparks;
            for (int i = 0; i < pieces[c]; i++) {
                int k = fromEnd ? pieces[c] - 1 - i : i;
                if (left < sparksOfPiece(c, k)) {
                    return k;
                }
                left -= sparksOfPiece(c, k);
            }
            return NONE;
        }

        /** Of its length what is burnt from its beginning, or what is left, downwards. */
        int thousandths(int c, int sparks, boolean left) {
            int k = nextPiece(c, sparks, false);
            int all = k == NONE ? 0 : pieces[c] * sparksOfPiece(c, k);
            if (all <= 0) {
                return left ? 0 : 1000;
            }
            // In shares of the piece that burns all pieces are as long as it, so that the sum is exact.
            int gone = k * sparksOfPiece(c, k) + sparks - sparksBefore(c, k);
            return (left ? all - gone : gone) * 1000 / all;
        }
    }

    private static final class Plan {
        int rules;
        int acts;
        final int[] waitsFor = new int[MOST_RULES];
        final int[] actsUpTo = new int[MOST_RULES];
        final int[] kind = new int[MOST_ACTS];
        final int[] one = new int[MOST_ACTS];
        final int[] other = new int[MOST_ACTS];

        void clear() {
            rules = 0;
            acts = 0;
        }

        void takeFrom(Plan plan) {
            rules = plan.rules;
            acts = plan.acts;
            System.arraycopy(plan.waitsFor, 0, waitsFor, 0, MOST_RULES);
            System.arraycopy(plan.actsUpTo, 0, actsUpTo, 0, MOST_RULES);
            System.arraycopy(plan.kind, 0, kind, 0, MOST_ACTS);
            System.arraycopy(plan.one, 0, one, 0, MOST_ACTS);
            System.arraycopy(plan.other, 0, other, 0, MOST_ACTS);
        }

        void addRule(int candle) {
            if (rules < MOST_RULES) {
                waitsFor[rules] = candle;
                actsUpTo[rules] = acts;
                rules++;
            }
        }

        void addAct(int sort, int a, int b) {
            if (acts < MOST_ACTS && rules > 0) {
                kind[acts] = sort;
                one[acts] = a;
                other[acts] = b;
                acts++;
                actsUpTo[rules - 1] = acts;
            }
        }

        int actsFrom(int rule) {
            return rule > 0 && rule < rules ? actsUpTo[rule - 1] : 0;
        }

        /** Candles, as bits, whose burning can matter: those that an act lights or joins. */
        int used() {
            int bits = 0;
            for (int k = 0; k < acts; k++) {
                if (kind[k] == LIGHT || kind[k] == BOTH || kind[k] == JOIN) {
                    bits |= 1 << one[k];
                }
                if (kind[k] == JOIN) {
                    bits |= 1 << other[k];
                }
            }
            return bits;
        }
    }

    /** What an image holds. */
    private static final class Book {
        final Cellar cellar = new Cellar();
        final Plan[] plans = new Plan[PLANS];

        Book() {
            for (int p = 0; p < PLANS; p++) {
                plans[p] = new Plan();
            }
        }

        void takeFrom(Book other) {
            cellar.takeFrom(other.cellar);
            for (int p = 0; p < PLANS; p++) {
                plans[p].takeFrom(other.plans[p]);
            }
        }
    }

    private static final class Row {
        boolean there;
        int sort;
        int size;
        final long[] numbers = new long[MOST_NUMBERS];

        void begin(int newSort, int n) {
            there = true;
            sort = newSort;
            size = n;
            for (int i = 0; i < MOST_NUMBERS; i++) {
                numbers[i] = 0;
            }
        }

        void put(int i, long v) {
            if (i >= 0 && i < size) {
                numbers[i] = cut(v);
            }
        }

        private long cut(long v) {
            switch (sort) {
                case 0:
                    return (byte) v;
                case 1:
                    return (short) v;
                case 2:
                    return (int) v;
                default:
                    return v;
            }
        }
    }

    /** Holds the tape and reads it, token by token; the first token that is wrong ends it. */
    private static final class Reader {
        private static final int END = 0;
        private static final int WORD = 1;
        private static final int NUMBER = 2;
        private static final int STOP = 3;
        private static final int STRANGE = 4;

        private static final int NO_TOKEN = 1;
        private static final int OUT_OF_PLACE = 2;
        private static final int OUT_OF_BOUNDS = 3;
        private static final int TOO_MANY = 4;

        final int[] tape = new int[MOST_BYTES];
        private int size;
        private int at;
        private int token;
        private int start;
        private int value;
        int fault;
        int place = NONE;

        boolean readCellar(Cellar to, int n) {
            begin(n);
            to.candles = 0;
            for (int line = 0; line <= MOST_CANDLES; line++) {
                advance();
                if (token == END) {
                    return true;
                }
                if (!readLine(to)) {
                    return false;
                }
            }
            return refuse(TOO_MANY);
        }

        private boolean readLine(Cellar to) {
            if (!isWord("candle")) {
                return refuse(OUT_OF_PLACE);
            }
            int c = to.open();
            if (c == NONE) {
                return refuse(TOO_MANY);
            }
            if (!readPieces(to, c)) {
                return false;
            }
            if (isWord("wax")) {
                if (!advanceTo(1, MOST_WAX)) {
                    return false;
                }
                to.wax[c] = value;
                advance();
            }
            if (isWord("draught")) {
                if (!advanceTo(0, MOST_DRAUGHT)) {
                    return false;
                }
                to.draught[c] = value;
                advance();
            }
            return token == STOP || refuse(OUT_OF_PLACE);
        }

        /** Leaves at hand the token behind the pieces. */
        private boolean readPieces(Cellar to, int c) {
            for (int i = 0; i <= MOST_PIECES; i++) {
                advance();
                if (i > 0 && token != NUMBER) {
                    return true;
                }
                if (!isNumber(1, MOST_MINUTES)) {
                    return false;
                }
                if (!to.addPiece(c, value)) {
                    return refuse(TOO_MANY);
                }
            }
            return refuse(TOO_MANY);
        }

        boolean readPlan(Plan to, int n) {
            begin(n);
            to.clear();
            for (int rule = 0; rule <= MOST_RULES; rule++) {
                advance();
                if (token == END) {
                    return true;
                }
                if (!readRule(to)) {
                    return false;
                }
            }
            return refuse(TOO_MANY);
        }

        private boolean readRule(Plan to) {
            boolean ends = isWord("ends");
            if (!ends && !isWord("first")) {
                return refuse(OUT_OF_PLACE);
            }
            if (to.rules >= MOST_RULES) {
                return refuse(TOO_MANY);
            }
            if (ends && !advanceTo(0, MOST_CANDLES - 1)) {
                return false;
            }
            to.addRule(ends ? value : NONE);
            for (int i = 0; i <= MOST_ACTS; i++) {
                advance();
                if (!readAct(to)) {
                    return false;
                }
                if (!isWord("and")) {
                    return token == STOP || refuse(OUT_OF_PLACE);
                }
            }
            return refuse(TOO_MANY);
        }

        /** Leaves at hand the token behind the act. */
        private boolean readAct(Plan to) {
            int kind = actAtHand();
            if (kind == NONE) {
                return refuse(OUT_OF_PLACE);
            }
            if (to.acts >= MOST_ACTS) {
                return refuse(TOO_MANY);
            }
            int one = 0;
            int other = 0;
            if (kind != BELL) {
                if (!advanceTo(0, MOST_CANDLES - 1)) {
                    return false;
                }
                one = value;
            }
            if (kind == JOIN) {
                if (!advanceTo(0, MOST_CANDLES - 1)) {
                    return false;
                }
                other = value;
            }
            to.addAct(kind, one, other);
            advance();
            return true;
        }

        private int actAtHand() {
            if (isWord("light")) {
                return LIGHT;
            }
            if (isWord("both")) {
                return BOTH;
            }
            if (isWord("out")) {
                return OUT;
            }
            if (isWord("join")) {
                return JOIN;
            }
            return isWord("bell") ? BELL : NONE;
        }

        private void begin(int n) {
            size = Math.max(0, Math.min(n, MOST_BYTES));
            at = 0;
            fault = 0;
            place = NONE;
        }

        /** Of one token the least kind of fault counts, and a strange sign has the least. */
        private boolean refuse(int kind) {
            fault = token == STRANGE ? NO_TOKEN : kind;
            place = start;
            return false;
        }

        private boolean advanceTo(int least, int most) {
            advance();
            return isNumber(least, most);
        }

        private boolean isNumber(int least, int most) {
            if (token != NUMBER) {
                return refuse(OUT_OF_PLACE);
            }
            return value >= least && value <= most || refuse(OUT_OF_BOUNDS);
        }

        private boolean isWord(String word) {
            if (token != WORD || at - start != word.length()) {
                return false;
            }
            for (int i = 0; i < word.length(); i++) {
                if (tape[start + i] != word.charAt(i)) {
                    return false;
                }
            }
            return true;
        }

        private void advance() {
            while (at < size && (tape[at] == ' ' || tape[at] == '\n')) {
                at++;
            }
            start = at;
            if (at >= size) {
                token = END;
            } else if (isLetter(tape[at])) {
                token = WORD;
                while (at < size && isLetter(tape[at])) {
                    at++;
                }
            } else if (isDigit(tape[at])) {
                advanceDigits();
            } else {
                token = tape[at] == ';' ? STOP : STRANGE;
                at++;
            }
        }

        private void advanceDigits() {
            value = 0;
            while (at < size && isDigit(tape[at])) {
                if (at - start < 3) {
                    value = value * 10 + tape[at] - '0';
                }
                at++;
            }
            token = at - start > 3 ? STRANGE : NUMBER;
        }

        private static boolean isLetter(int sign) {
            return sign >= 'a' && sign <= 'z';
        }

        private static boolean isDigit(int sign) {
            return sign >= '0' && sign <= '9';
        }
    }

    /** One run of a plan, all its amounts and times in grains. */
    private static final class Run {
        int candles;
        final int[] first = new int[MOST_CANDLES];
        final int[] rest = new int[MOST_CANDLES];
        final int[] flames = new int[MOST_CANDLES];
        final int[] own = new int[MOST_CANDLES];
        final int[] next = new int[MOST_CANDLES];
        final int[] last = new int[MOST_CANDLES];
        final int[] endAt = new int[MOST_CANDLES];
        final int[] bells = new int[MOST_ACTS];
        int bellCount;
        long vain;
        int doneRules;
        int lit;
        int now;
        private Plan plan;
        private int leftOut;

        void lay(Cellar cellar) {
            candles = cellar.candles;
            for (int c = 0; c < candles; c++) {
                first[c] = cellar.sparksOf(c) * GRAINS;
            }
        }

        /** Plays the plan, one act left out or none (NONE), until all is over or it is so late. */
        void play(Plan played, int without, int until) {
            begin(played, without);
            doRules(NONE);
            // Every turn ends a candle at least.
            for (int turn = 0; turn < MOST_CANDLES; turn++) {
                int step = untilNextEnd();
                if (step == NONE) {
                    return;
                }
                if (now + step > until) {
                    burn(until - now);
                    return;
                }
                burn(step);
                int ended = putAwayEnded();
                for (int c = 0; c < candles; c++) {
                    if ((ended >> c & 1) != 0) {
                        doRules(c);
                    }
                }
            }
        }

        int bellAt(int k) {
            return k >= 0 && k < bellCount ? bells[k] / GRAINS : NONE;
        }

        /** The first bell, from a number on, that is no more than so many sparks from a time. */
        int bellNear(int from, long time, int sparks) {
            for (int k = Math.max(0, from); k < bellCount; k++) {
                long at = bells[k] / GRAINS;
                if (time >= at - sparks && time <= at + sparks) {
                    return k;
                }
            }
            return NONE;
        }

        private void begin(Plan played, int without) {
            plan = played;
            leftOut = without;
            bellCount = 0;
            vain = 0;
            doneRules = 0;
            lit = 0;
            now = 0;
            for (int c = 0; c < candles; c++) {
                rest[c] = first[c];
                flames[c] = 0;
                own[c] = first[c];
                next[c] = NONE;
                last[c] = c;
                endAt[c] = NONE;
            }
        }

        private int untilNextEnd() {
            int least = NONE;
            for (int c = 0; c < candles; c++) {
                if (flames[c] > 0) {
                    int step = rest[c] / flames[c];
                    least = least == NONE ? step : Math.min(least, step);
                }
            }
            return least;
        }

        private void burn(int step) {
            now += step;
            for (int c = 0; c < candles; c++) {
                if (flames[c] > 0) {
                    rest[c] -= step * flames[c];
                    burnOwn(c, step * flames[c]);
                }
            }
        }

        /** Joined candles burn one after the other, so each one's own share is told by the chain. */
        private void burnOwn(int holder, int amount) {
            int left = amount;
            int c = holder;
            for (int i = 0; i < MOST_CANDLES && c != NONE && left > 0; i++) {
                int share = Math.min(own[c], left);
                own[c] -= share;
                left -= share;
                c = next[c];
            }
        }

        private int putAwayEnded() {
            int ended = 0;
            for (int c = 0; c < candles; c++) {
                if (flames[c] > 0 && rest[c] <= 0) {
                    flames[c] = 0;
                    endAt[c] = now;
                    ended |= 1 << c;
                }
            }
            return ended;
        }

        private void doRules(int candle) {
            for (int i = 0; i < plan.rules; i++) {
                if (plan.waitsFor[i] == candle) {
                    doneRules |= 1 << i;
                    for (int k = plan.actsFrom(i); k < plan.actsUpTo[i]; k++) {
                        if (k != leftOut && !doAct(k)) {
                            vain |= 1L << k;
                        }
                    }
                }
            }
        }

        private boolean doAct(int k) {
            int c = plan.one[k];
            switch (plan.kind[k]) {
                case LIGHT:
                    return stands(c) && giveFlames(c, flames[c] + 1);
                case BOTH:
                    return stands(c) && flames[c] < 2 && giveFlames(c, 2);
                case OUT:
                    return stands(c) && flames[c] > 0 && giveFlames(c, 0);
                case JOIN:
                    return join(c, plan.other[k]);
                default:
                    ring();
                    return true;
            }
        }

        private boolean stands(int c) {
            return c >= 0 && c < candles && rest[c] > 0;
        }

        private boolean giveFlames(int c, int n) {
            if (n > 2) {
                return false;
            }
            lit += Math.max(0, n - flames[c]);
            flames[c] = n;
            return true;
        }

        private boolean join(int c, int second) {
            if (!stands(c) || !stands(second) || c == second || flames[c] > 0 || flames[second] > 0) {
                return false;
            }
            rest[c] += rest[second];
            rest[second] = 0;
            next[last[c]] = second;
            last[c] = last[second];
            return true;
        }

        private void ring() {
            if (bellCount < MOST_ACTS) {
                bells[bellCount] = now;
                bellCount++;
            }
        }
    }

    /** The least and the greatest time of each bell of a plan, by draughts, in grains. */
    private static final class Offs {
        private static final int MOST_TRIES = 6561;

        int ofPlan = NONE;
        int most;
        final int[] low = new int[MOST_ACTS];
        final int[] high = new int[MOST_ACTS];
        private final int[] turn = new int[MOST_CANDLES];

        void tryAll(Run run, Cellar cellar, Plan plan) {
            most = 0;
            run.lay(cellar);
            for (int c = 0; c < MOST_CANDLES; c++) {
                turn[c] = 0;
            }
            int used = plan.used();
            for (int i = 0; i < MOST_TRIES; i++) {
                run.play(plan, NONE, FOREVER);
                note(run);
                if (!turnNext(run, cellar, used)) {
                    return;
                }
            }
        }

        private void note(Run run) {
            for (int k = 0; k < run.bellCount; k++) {
                low[k] = k < most ? Math.min(low[k], run.bells[k]) : run.bells[k];
                high[k] = k < most ? Math.max(high[k], run.bells[k]) : run.bells[k];
            }
            most = Math.max(most, run.bellCount);
        }

        /** Counts on in threes over the candles that a draught can change in this plan. */
        private boolean turnNext(Run run, Cellar cellar, int used) {
            for (int c = 0; c < cellar.candles; c++) {
                if (cellar.draught[c] > 0 && (used >> c & 1) != 0) {
                    turn[c] = (turn[c] + 1) % 3;
                    int more = turn[c] == 2 ? cellar.draught[c] : -turn[c] * cellar.draught[c];
                    run.first[c] = cellar.sparksOf(c) * (100 + more) / 100 * GRAINS;
                    if (turn[c] > 0) {
                        return true;
                    }
                }
            }
            return false;
        }
    }

    /** A set of times, all multiples of the grid. */
    private static final class Marks {
        private static final int WORDS = MOST_MARKS / 64 + 1;

        int ofSet;
        private final long[] words = new long[WORDS];

        void clear() {
            for (int i = 0; i < WORDS; i++) {
                words[i] = 0;
            }
        }

        void add(int time) {
            int i = time / GRID;
            if (i >= 0 && i < WORDS * 64) {
                words[i >> 6] |= 1L << (i & 63);
            }
        }

        boolean has(int time) {
            return time >= 0 && time % GRID == 0 && hasMark(time / GRID);
        }

        private boolean hasMark(int i) {
            return i >= 0 && i < WORDS * 64 && (words[i >> 6] >>> (i & 63) & 1L) != 0;
        }

        int size() {
            int sum = 0;
            for (int i = 0; i < WORDS; i++) {
                sum += Long.bitCount(words[i]);
            }
            return sum;
        }

        int nth(int k) {
            if (k < 0) {
                return NONE;
            }
            int left = k;
            for (int i = 0; i < WORDS; i++) {
                int here = Long.bitCount(words[i]);
                if (left < here) {
                    return nthOfWord(i, left);
                }
                left -= here;
            }
            return NONE;
        }

        private int nthOfWord(int word, int k) {
            int seen = 0;
            for (int i = word * 64; i < word * 64 + 64; i++) {
                if (hasMark(i)) {
                    if (seen == k) {
                        return i * GRID;
                    }
                    seen++;
                }
            }
            return NONE;
        }

        int lastUpTo(int time) {
            for (int i = Math.min(time / GRID, WORDS * 64 - 1); i >= 0; i--) {
                if (hasMark(i)) {
                    return i * GRID;
                }
                if (words[i >> 6] == 0) {
                    i &= ~63;
                }
            }
            return NONE;
        }

        int firstFrom(int time) {
            if (time > (WORDS * 64 - 1) * GRID) {
                return NONE;
            }
            for (int i = (time + GRID - 1) / GRID; i < WORDS * 64; i++) {
                if (hasMark(i)) {
                    return i * GRID;
                }
                if (words[i >> 6] == 0) {
                    i |= 63;
                }
            }
            return NONE;
        }
    }

    /** All ways of a set, in the order in which flames are given, fewer ahead. */
    private static final class Ways {
        static final int MARK = 0;
        static final int REACH = 1;
        static final int FEWEST = 2;
        static final int BURNT = 3;
        static final int BETWEEN = 4;
        static final int WANTED = 5;
        private static final int MOST_GIVEN = 81;

        private int size;
        private boolean out;
        private int all;
        private int measure;
        private int goal;
        private int target;
        private boolean found;
        private boolean over;
        int best;
        int reached;
        private int wanted;
        private Marks marks;
        private final int[] wants = new int[MOST_OF_SET];
        private final int[] moment = new int[MOST_OF_SET + 1];
        private final int[][] rest = new int[MOST_OF_SET + 1][MOST_OF_SET];
        // Row i holds the flames up to the i-th moment: row 0 none, row i + 1 what is given behind i moments.
        private final int[][] flames = new int[MOST_OF_SET + 1][MOST_OF_SET];

        void lay(Cellar cellar, int set, boolean withOut) {
            out = withOut;
            size = 0;
            all = 0;
            measure = 0;
            for (int c = 0; c < cellar.candles && size < MOST_OF_SET; c++) {
                if ((set >> c & 1) != 0) {
                    rest[0][size] = cellar.sparksOf(c);
                    flames[0][size] = 0;
                    all += rest[0][size];
                    measure = commonMeasure(measure, rest[0][size]);
                    size++;
                }
            }
        }

        private static int commonMeasure(int a, int b) {
            int one = a;
            int other = b;
            // Two turns halve what is left at least, so that this is over long before.
            for (int i = 0; i < 100 && other != 0; i++) {
                int left = one % other;
                one = other;
                other = left;
            }
            return one;
        }

        /** Each moment halves at most once what all rests are multiples of, which rules most times out at once. */
        private boolean onGrid(int time) {
            int grid = measure >> size;
            return grid > 0 && time % grid == 0;
        }

        void markAll(Marks to) {
            marks = to;
            goal = MARK;
            begin();
            go(0, all, 0);
        }

        boolean seek(int newGoal, int time) {
            if (time > all || !onGrid(time)) {
                return false;
            }
            goal = newGoal;
            target = time;
            begin();
            go(0, all, 0);
            return found;
        }

        /** Takes the times that all shall be moments, sorted, each once; false if no way can have them. */
        boolean want(Row row) {
            wanted = 0;
            for (int i = 0; i < row.size; i++) {
                long time = row.numbers[i];
                if (time < 1 || time > MOST_MARKS * GRID || !wantAlso((int) time)) {
                    return false;
                }
            }
            return true;
        }

        private boolean wantAlso(int time) {
            int at = 0;
            while (at < wanted && wants[at] < time) {
                at++;
            }
            if (at < wanted && wants[at] == time) {
                return true;
            }
            if (wanted >= MOST_OF_SET) {
                return false;
            }
            for (int i = wanted; i > at; i--) {
                wants[i] = wants[i - 1];
            }
            wants[at] = time;
            wanted++;
            return true;
        }

        boolean seekWanted() {
            if (wanted == 0) {
                return true;
            }
            if (wanted > size || wants[wanted - 1] > all) {
                return false;
            }
            for (int i = 0; i < wanted; i++) {
                if (!onGrid(wants[i])) {
                    return false;
                }
            }
            goal = WANTED;
            begin();
            go(0, all, 0);
            return found;
        }

        /** What the way that was found gives behind k moments. */
        int digits(int k) {
            if (k < 0 || k >= reached || k >= MOST_OF_SET) {
                return NONE;
            }
            int number = 0;
            for (int c = 0; c < size; c++) {
                number = number * 10 + flames[k + 1][c];
            }
            return number;
        }

        private void begin() {
            found = false;
            over = false;
            moment[0] = 0;
        }

        /** From the level-th moment on, with so much left in all; spent is what the goal counts. */
        private void go(int level, int left, int spent) {
            if (level >= MOST_OF_SET || left <= 0) {
                return;
            }
            for (int c = 0; c < size; c++) {
                flames[level + 1][c] = fewestFor(level, c);
            }
            for (int i = 0; i < MOST_GIVEN; i++) {
                follow(level, left, spent);
                if (over || !giveNext(level)) {
                    return;
                }
            }
        }

        private int fewestFor(int level, int c) {
            return out || rest[level][c] == 0 ? 0 : flames[level][c];
        }

        private boolean giveNext(int level) {
            int[] gives = flames[level + 1];
            for (int c = size - 1; c >= 0; c--) {
                if (rest[level][c] > 0 && gives[c] < 2) {
                    gives[c]++;
                    return true;
                }
                gives[c] = fewestFor(level, c);
            }
            return false;
        }

        private void follow(int level, int left, int spent) {
            int[] before = rest[level];
            int[] gives = flames[level + 1];
            int step = 0;
            int burning = 0;
            for (int c = 0; c < size; c++) {
                if (gives[c] > 0) {
                    int own = gives[c] == 2 ? before[c] >> 1 : before[c];
                    step = burning == 0 ? own : Math.min(step, own);
                    burning += gives[c];
                }
            }
            if (burning == 0) {
                return;
            }
            int[] behind = rest[level + 1];
            for (int c = 0; c < size; c++) {
                behind[c] = before[c] - gives[c] * step;
            }
            moment[level + 1] = moment[level] + step;
            arrive(level + 1, left - burning * step, spent);
        }

        private void arrive(int level, int left, int spent) {
            switch (goal) {
                case MARK:
                    marks.add(moment[level]);
                    go(level, left, spent);
                    break;
                case BETWEEN:
                    if (liesBetween(level)) {
                        found = true;
                        over = true;
                    } else {
                        go(level, left, spent);
                    }
                    break;
                case WANTED:
                    arriveWanting(level, left, spent);
                    break;
                default:
                    arriveSeeking(level, left, goal == FEWEST ? spent + newFlames(level) : all - left);
                    break;
            }
        }

        private boolean liesBetween(int level) {
            for (int i = 0; i < level; i++) {
                if (moment[level] - moment[i] == target) {
                    return true;
                }
            }
            return false;
        }

        private void arriveWanting(int level, int left, int met) {
            int now = moment[level];
            if (met >= wanted || now > wants[met]) {
                return;
            }
            int behind = now == wants[met] ? met + 1 : met;
            if (behind >= wanted) {
                found = true;
                over = true;
            } else if (mayTell(level, wants[behind] - now)) {
                go(level, left, behind);
            }
        }

        private void arriveSeeking(int level, int left, int spent) {
            int now = moment[level];
            if (now > target || now + left < target || found && spent >= best) {
                return;
            }
            if (now < target) {
                if (mayTell(level, target - now)) {
                    go(level, left, spent);
                }
                return;
            }
            found = true;
            best = spent;
            reached = level;
            over = goal == REACH;
        }

        /** False where so much more can't be told from here; most ways are cut short by it. */
        private boolean mayTell(int level, int more) {
            int standing = 0;
            int bits = 0;
            for (int c = 0; c < size; c++) {
                if (rest[level][c] > 0) {
                    standing++;
                    bits |= rest[level][c];
                }
            }
            if (standing == 1) {
                return more == bits || more * 2 == bits;
            }
            // All rests are multiples of their lowest bit, and each end halves it at most once.
            int grid = (bits & -bits) >> standing;
            return (more & grid - 1) == 0;
        }

        private int newFlames(int level) {
            int sum = 0;
            for (int c = 0; c < size; c++) {
                sum += Math.max(0, flames[level][c] - flames[level - 1][c]);
            }
            return sum;
        }
    }

    /** All ways along one or two candles whose two ends are lit by themselves. */
    private static final class Along {
        static final int MOST = 2;
        // A candle has at most five meetings of pieces, each of which a flame comes to once, and its end.
        private static final int MOST_MOMENTS = MOST * MOST_PIECES;
        private static final int PLACES = MOST * 2;

        private int size;
        private Marks marks;
        private final int[] pieces = new int[MOST];
        private final int[] all = new int[MOST];
        private final int[][] edges = new int[MOST][MOST_PIECES + 1];
        // Behind so many moments: what is burnt from place 2 c, a candle's beginning, and 2 c + 1, its end.
        private final int[][] gone = new int[MOST_MOMENTS + 1][PLACES];

        void lay(Cellar cellar, int set) {
            size = 0;
            for (int c = 0; c < cellar.candles && size < MOST; c++) {
                if ((set >> c & 1) != 0) {
                    pieces[size] = cellar.pieces[c];
                    all[size] = cellar.sparksOf(c);
                    for (int i = 0; i <= MOST_PIECES; i++) {
                        edges[size][i] = cellar.sparksBefore(c, i);
                    }
                    size++;
                }
            }
        }

        void markAll(Marks to) {
            marks = to;
            for (int place = 0; place < PLACES; place++) {
                gone[0][place] = 0;
            }
            go(0, 0, 0);
        }

        private void go(int level, int now, int lit) {
            if (level >= MOST_MOMENTS) {
                return;
            }
            int free = places(level) & ~lit;
            for (int more = 0; more < 1 << PLACES; more++) {
                if ((more & ~free) == 0) {
                    follow(level, now, lit | more);
                }
            }
        }

        /** Places of candles that have not ended, as bits. */
        private int places(int level) {
            int bits = 0;
            for (int c = 0; c < size; c++) {
                if (gone[level][2 * c] + gone[level][2 * c + 1] < all[c]) {
                    bits |= 3 << 2 * c;
                }
            }
            return bits;
        }

        private void follow(int level, int now, int lit) {
            int burning = places(level) & lit;
            if (burning == 0) {
                return;
            }
            int step = untilNext(level, burning);
            for (int place = 0; place < PLACES; place++) {
                gone[level + 1][place] = gone[level][place] + ((burning >> place & 1) != 0 ? step : 0);
            }
            marks.add(now + step);
            go(level + 1, now + step, lit);
        }

        private int untilNext(int level, int burning) {
            int step = MOST_MARKS * GRID;
            for (int c = 0; c < size; c++) {
                int begun = gone[level][2 * c];
                int ended = gone[level][2 * c + 1];
                int here = burning >> 2 * c & 3;
                if ((here & 1) != 0) {
                    step = Math.min(step, untilEdge(c, begun));
                }
                if ((here & 2) != 0) {
                    step = Math.min(step, untilEdgeFromEnd(c, ended));
                }
                if (here == 3) {
                    step = Math.min(step, (all[c] - begun - ended) / 2);
                }
            }
            return step;
        }

        private int untilEdge(int c, int burnt) {
            for (int i = 1; i <= pieces[c]; i++) {
                if (edges[c][i] > burnt) {
                    return edges[c][i] - burnt;
                }
            }
            return 0;
        }

        private int untilEdgeFromEnd(int c, int burnt) {
            for (int i = pieces[c] - 1; i >= 0; i--) {
                if (all[c] - edges[c][i] > burnt) {
                    return all[c] - edges[c][i] - burnt;
                }
            }
            return 0;
        }
    }
}
