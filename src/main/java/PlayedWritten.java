/**
 * What was played, written down: strokes by their times, put on bars that are divided again and
 * again, by the writing of least cost. The document's words (STROKE, BAR, SPAN, LEAF, ...) are used
 * in the comments as it uses them.
 */
public final class PlayedWritten {
    public static final int NONE = -1, BAD = -2, NO = -3, FULL = -4;

    private static final int MOST_STROKES = 8;
    private static final int LAST_TIME = 1999;
    private static final int MOST_BARS = 3;
    private static final int MOST_DEPTH = 3;
    private static final int WHOLE = 216;
    private static final int MOST_SHIFT = 500;
    private static final int MOST_SEED = 999999;
    private static final int MOST_BEND = 24;
    private static final int MOST_BYTES = 60;
    private static final int MOST_SIGN = 127;
    private static final int MOST_STATES = 8;

    private static final int BARS = 0, LENGTH = 1, BEND = 2, DEPTH = 3, HALVES_PRICE = 4,
            SWING_PRICE = 5, THIRDS_PRICE = 6, GRACE = 7, CHANGE = 8, CHORD = 9;
    private static final int SETTINGS = 10;
    private static final int[] LEAST = {1, 48, 0, 0, 0, 0, 0, 0, 0, 0};
    private static final int[] GREATEST = {3, 432, 24, 3, 99, 99, 99, 99, 99, 50};
    private static final int[] AT_FIRST = {2, 216, 0, 2, 4, 10, 8, 6, 2, 6};

    private static final int LEAF = 0, HALVES = 1, SWING = 2, THIRDS = 3;
    private static final int WAYS = 4;
    private static final int FREE = -1;

    private static final int REFUSALS = 3;
    private static final int TOLD_STROKES = 3, TOLD_SETTINGS = 4, TOLD_BYTES = 14;
    private static final int TOLD = 16;
    private static final int FAULT_ANSWER = -10;
    private static final long DIGEST_START = 1772L;

    /** Above every COST that can be (some 10 million), and low enough to be added up eight times. */
    private static final int UNREACHABLE = 100000000;

    private final Score score = new Score();
    private final History history = new History();
    private final Sheet sheet = new Sheet();
    private final Search search = new Search();
    private final Writing best = new Writing();
    private final int[] refusals = new int[REFUSALS];
    private boolean bestStands = false;

    public PlayedWritten() {
    }

    // ---- strokes

    public int strikes(int t) {
        if (!isTime(t)) {
            return refuse(BAD);
        }
        if (score.many >= MOST_STROKES) {
            return refuse(FULL);
        }
        beginChange();
        return score.insert(t);
    }

    public int lifts(int k) {
        if (!isStroke(k)) {
            return refuse(BAD);
        }
        beginChange();
        score.remove(k);
        return score.many;
    }

    public int moves(int k, int t) {
        if (!isStroke(k) || !isTime(t)) {
            return refuse(BAD);
        }
        beginChange();
        score.remove(k);
        return score.insert(t);
    }

    public int draws(int seed, int n) {
        if (seed < 0 || seed > MOST_SEED || n < 0 || n > MOST_STROKES) {
            return refuse(BAD);
        }
        beginChange();
        return score.draw(seed, n);
    }

    public int shifts(int v) {
        if (v < -MOST_SHIFT || v > MOST_SHIFT) {
            return refuse(BAD);
        }
        beginChange();
        return score.shift(v);
    }

    public int sets(int what, int v) {
        if (what < 0 || what >= SETTINGS) {
            return refuse(BAD);
        }
        if (v < LEAST[what] || v > GREATEST[what]) {
            return refuse(BAD);
        }
        beginChange();
        int was = score.settings[what];
        score.settings[what] = v;
        return was;
    }

    public int time(int k) {
        if (!isStroke(k)) {
            return refuse(BAD);
        }
        return score.times[k];
    }

    // ---- the best writing

    public int cost() {
        return bestWriting().total;
    }

    public int bar(int b, int what) {
        if (!isBar(b) || what < 0 || what >= Writing.BAR_FACTS) {
            return refuse(BAD);
        }
        return bestWriting().barFact(b, what);
    }

    public int written(int k, int what) {
        if (!isStroke(k) || what < 0 || what >= Writing.STROKE_FACTS) {
            return refuse(BAD);
        }
        return bestWriting().strokeFact(k, what);
    }

    public int shown(int b, int i) {
        if (!isBar(b) || i < 0) {
            return refuse(BAD);
        }
        return bestWriting().sign(b, i);
    }

    public int count(int what) {
        if (what < 0 || what >= Writing.TALLIES) {
            return refuse(BAD);
        }
        return bestWriting().tally(what);
    }

    // ---- others

    public int bent(int v) {
        if (v < 0 || v > MOST_BEND) {
            return refuse(BAD);
        }
        search.task.take(score);
        search.task.bend = v;
        return search.leastCost();
    }

    public int forced(int way) {
        if (way < LEAF || way > THIRDS) {
            return refuse(BAD);
        }
        if (way != LEAF && score.settings[DEPTH] == 0) {
            return refuse(NO);
        }
        search.task.take(score);
        search.task.force(way);
        return search.leastCost();
    }

    public int without(int k) {
        if (!isStroke(k)) {
            return refuse(BAD);
        }
        search.task.take(score);
        search.task.leaveOut(k);
        return search.leastCost();
    }

    public int exact() {
        search.task.take(score);
        search.task.errorsForbidden = true;
        int least = search.leastCost();
        return least >= UNREACHABLE ? NONE : least;
    }

    // ---- texts

    public int type(int c) {
        if (c < 0 || c > MOST_SIGN) {
            return refuse(BAD);
        }
        if (sheet.length >= MOST_BYTES) {
            return refuse(FULL);
        }
        sheet.add(c);
        return sheet.length;
    }

    public int clear() {
        int had = sheet.length;
        sheet.length = 0;
        return had;
    }

    public int plays() {
        int fault = sheet.read();
        if (fault != NONE) {
            return FAULT_ANSWER - fault;
        }
        beginChange();
        score.play(sheet);
        return score.many;
    }

    public int back() {
        if (history.size == 0) {
            return refuse(NO);
        }
        history.restore(score);
        bestStands = false;
        return history.size;
    }

    public int told(int what) {
        if (what < 0 || what >= TOLD) {
            return refuse(BAD);
        }
        return tell(what);
    }

    public long digest() {
        long h = DIGEST_START;
        for (int what = 0; what < TOLD; what++) {
            h = 31 * h + tell(what);
        }
        for (int k = 0; k < score.many; k++) {
            h = 31 * h + score.times[k];
        }
        Writing writing = bestWriting();
        h = 31 * h + writing.total;
        for (int b = 0; b < score.settings[BARS]; b++) {
            for (int what = 0; what < Writing.BAR_FACTS; what++) {
                h = 31 * h + writing.barFact(b, what);
            }
        }
        for (int k = 0; k < score.many; k++) {
            for (int what = 0; what < Writing.STROKE_FACTS; what++) {
                h = 31 * h + writing.strokeFact(k, what);
            }
        }
        return h;
    }

    private static boolean isTime(int t) {
        return t >= 0 && t <= LAST_TIME;
    }

    private boolean isStroke(int k) {
        return k >= 0 && k < score.many;
    }

    private boolean isBar(int b) {
        return b >= 0 && b < score.settings[BARS];
    }

    private int refuse(int why) {
        if (why == BAD) {
            refusals[0]++;
        } else if (why == NO) {
            refusals[1]++;
        } else {
            refusals[2]++;
        }
        return why;
    }

    /** Every call told S comes through here, once nothing can refuse it any more. */
    private void beginChange() {
        history.keep(score);
        bestStands = false;
    }

    private int tell(int what) {
        if (what < REFUSALS) {
            return refusals[what];
        }
        if (what == TOLD_STROKES) {
            return score.many;
        }
        if (what < TOLD_BYTES) {
            return score.settings[what - TOLD_SETTINGS];
        }
        return what == TOLD_BYTES ? sheet.length : history.size;
    }

    /** Found once for each state of STROKES and settings: many calls ask for parts of it. */
    private Writing bestWriting() {
        if (!bestStands) {
            search.task.take(score);
            best.open(search.leastCost());
            search.writeBars(best);
            bestStands = true;
        }
        return best;
    }

    /** Closes the gap that STROKE k leaves, and answers how many there are then. */
    private static int takeOut(int[] times, int many, int k) {
        if (k < 0 || k >= many) {
            return many;
        }
        for (int i = k + 1; i < many; i++) {
            times[i - 1] = times[i];
        }
        return many - 1;
    }

    private static int partCount(int kind) {
        return kind == THIRDS ? 3 : 2;
    }

    private static int partFrom(int kind, int part, int from, int size) {
        if (kind == HALVES) {
            return from + part * (size / 2);
        }
        if (kind == SWING) {
            return from + part * (size / 3 * 2);
        }
        return from + part * (size / 3);
    }

    private static int partSize(int kind, int part, int size) {
        if (kind == HALVES) {
            return size / 2;
        }
        return kind == SWING && part == 0 ? size / 3 * 2 : size / 3;
    }

    /** STROKES (their TIMES, never falling) and settings: all that a STATE brings back. */
    private static final class Score {
        static final int ROW = MOST_STROKES + SETTINGS + 1;

        final int[] times = new int[MOST_STROKES];
        final int[] settings = new int[SETTINGS];
        int many = 0;

        Score() {
            System.arraycopy(AT_FIRST, 0, settings, 0, SETTINGS);
        }

        int insert(int t) {
            if (many >= MOST_STROKES) {
                return NONE;
            }
            int k = many;
            while (k > 0 && times[k - 1] > t) {
                times[k] = times[k - 1];
                k--;
            }
            times[k] = t;
            many++;
            return k;
        }

        void remove(int k) {
            many = takeOut(times, many, k);
        }

        int draw(int seed, int n) {
            int ticks = settings[BARS] * settings[LENGTH];
            long x = seed;
            int sum = 0;
            many = 0;
            for (int drawn = 0; drawn < n && ticks > 0; drawn++) {
                x = (x * 1103515245L + 12345L) % 2147483648L;
                int t = (int) (x / 65536L % ticks);
                insert(t);
                sum += t;
            }
            return sum;
        }

        int shift(int v) {
            int otherwise = 0;
            for (int k = 0; k < many; k++) {
                int t = Math.max(0, Math.min(LAST_TIME, times[k] + v));
                if (t != times[k]) {
                    otherwise++;
                }
                times[k] = t;
            }
            return otherwise;
        }

        void play(Sheet sheet) {
            int length = settings[LENGTH];
            settings[BARS] = sheet.bars;
            many = 0;
            for (int k = 0; k < sheet.strokes && k < MOST_STROKES; k++) {
                insert(sheet.barOf[k] * length + length * sheet.placeOf[k] / WHOLE);
            }
        }

        void saveTo(int[] row, int at) {
            System.arraycopy(times, 0, row, at, MOST_STROKES);
            System.arraycopy(settings, 0, row, at + MOST_STROKES, SETTINGS);
            row[at + ROW - 1] = many;
        }

        void loadFrom(int[] row, int at) {
            System.arraycopy(row, at, times, 0, MOST_STROKES);
            System.arraycopy(row, at + MOST_STROKES, settings, 0, SETTINGS);
            many = row[at + ROW - 1];
        }
    }

    /** The STATES to go back to, in a ring, so that the oldest is lost without moving the others. */
    private static final class History {
        final int[] rows = new int[MOST_STATES * Score.ROW];
        int next = 0;
        int size = 0;

        void keep(Score score) {
            score.saveTo(rows, next * Score.ROW);
            next = (next + 1) % MOST_STATES;
            size = Math.min(size + 1, MOST_STATES);
        }

        void restore(Score score) {
            if (size == 0) {
                return;
            }
            next = (next + MOST_STATES - 1) % MOST_STATES;
            size--;
            score.loadFrom(rows, next * Score.ROW);
        }
    }

    /** THE TEXT, and what it tells when it is read. */
    private static final class Sheet {
        static final String OPENING = "-[<{";
        static final String CLOSING = "-]>}";

        final int[] signs = new int[MOST_BYTES];
        int length = 0;

        final int[] barOf = new int[MOST_STROKES];
        final int[] placeOf = new int[MOST_STROKES];
        int bars = 0;
        int strokes = 0;

        // The divided SPANS that stand open, outermost first; part tells how many parts are read.
        private final int[] kind = new int[MOST_DEPTH];
        private final int[] part = new int[MOST_DEPTH];
        private final int[] from = new int[MOST_DEPTH];
        private final int[] size = new int[MOST_DEPTH];
        private int open = 0;

        void add(int sign) {
            if (length < MOST_BYTES) {
                signs[length] = sign;
                length++;
            }
        }

        /** The FAULT, or NONE if there is none. */
        int read() {
            bars = 0;
            strokes = 0;
            open = 0;
            for (int i = 0; i < length; i++) {
                if (signs[i] != ' ' && !take(signs[i])) {
                    return i;
                }
            }
            return open > 0 || bars == 0 ? length : NONE;
        }

        /** Whether the sign can stand here; it is taken then. */
        private boolean take(int sign) {
            if (open > 0 && part[open - 1] >= partCount(kind[open - 1])) {
                return takeClosing(sign);
            }
            if (open == 0 && bars >= MOST_BARS) {
                return false;
            }
            if (sign == '-') {
                endSpan();
                return true;
            }
            if (sign >= '1' && sign <= '8') {
                return takeFigure(sign - '0');
            }
            return takeOpening(sign);
        }

        private boolean takeClosing(int sign) {
            if (sign != CLOSING.charAt(kind[open - 1])) {
                return false;
            }
            open--;
            endSpan();
            return true;
        }

        private boolean takeFigure(int figure) {
            if (strokes + figure > MOST_STROKES) {
                return false;
            }
            int place = spanFrom();
            for (int n = 0; n < figure; n++) {
                barOf[strokes] = bars;
                placeOf[strokes] = place;
                strokes++;
            }
            endSpan();
            return true;
        }

        private boolean takeOpening(int sign) {
            for (int way = HALVES; way <= THIRDS; way++) {
                if (sign == OPENING.charAt(way) && open < MOST_DEPTH) {
                    int begins = spanFrom();
                    int wide = spanSize();
                    kind[open] = way;
                    part[open] = 0;
                    from[open] = begins;
                    size[open] = wide;
                    open++;
                    return true;
                }
            }
            return false;
        }

        private void endSpan() {
            if (open > 0) {
                part[open - 1]++;
            } else {
                bars++;
            }
        }

        private int spanFrom() {
            if (open == 0) {
                return 0;
            }
            int f = open - 1;
            return partFrom(kind[f], part[f], from[f], size[f]);
        }

        private int spanSize() {
            if (open == 0) {
                return WHOLE;
            }
            int f = open - 1;
            return partSize(kind[f], part[f], size[f]);
        }
    }

    /** A question to the search: STROKES, settings, and what bent, forced, without, exact change. */
    private static final class Task {
        final int[] times = new int[MOST_STROKES];
        final int[] gracePrice = new int[MOST_STROKES];
        final int[] price = new int[WAYS];
        final int[] barPrice = new int[WAYS];
        int many = 0;
        int bars = 1;
        int length = 0;
        int bend = 0;
        int depth = 0;
        int changePrice = 0;
        boolean errorsForbidden = false;
        private int grace = 0;
        private int chord = 0;

        void take(Score score) {
            int[] settings = score.settings;
            System.arraycopy(score.times, 0, times, 0, MOST_STROKES);
            many = score.many;
            bars = settings[BARS];
            length = settings[LENGTH];
            bend = settings[BEND];
            depth = settings[DEPTH];
            price[LEAF] = 0;
            price[HALVES] = WHOLE * settings[HALVES_PRICE];
            price[SWING] = WHOLE * settings[SWING_PRICE];
            price[THIRDS] = WHOLE * settings[THIRDS_PRICE];
            grace = WHOLE * settings[GRACE];
            changePrice = WHOLE * settings[CHANGE];
            chord = settings[CHORD];
            errorsForbidden = false;
            force(FREE);
            priceGraces();
        }

        /** Other ways of a BAR itself are priced out of reach; its parts stay free. */
        void force(int way) {
            for (int w = LEAF; w < WAYS; w++) {
                barPrice[w] = way == FREE || way == w ? price[w] : UNREACHABLE;
            }
            if (way == LEAF) {
                depth = 0;
            }
        }

        void leaveOut(int k) {
            many = takeOut(times, many, k);
            priceGraces();
        }

        /** What a STROKE costs as a GRACE, if it shares a LEAF with the one ahead. */
        private void priceGraces() {
            for (int k = 0; k < many; k++) {
                gracePrice[k] = clashes(k) ? grace : 0;
            }
        }

        /** Whether STROKE k can not sound with the one ahead: a GRACE, if they share a LEAF. */
        boolean clashes(int k) {
            return k > 0 && k < many && times[k] - times[k - 1] > chord;
        }
    }

    /**
     * Every SPAN that a BAR can be divided into, each once: different divisions lead to the same
     * ones. At the deepest LEVEL a SPAN is but a place where it starts.
     */
    private static final class Spans {
        static final int STARTS = 46;
        static final int DIVIDED = 35;
        static final int KIDS = 6;
        // SWING ends with the last of the THIRDS, so six parts serve all three divisions.
        static final int FIRST_HALF = 0, SECOND_HALF = 1, TWO_THIRDS = 2, FIRST_THIRD = 3,
                MIDDLE_THIRD = 4, LAST_THIRD = 5;
        private static final int[] KID_KIND = {HALVES, HALVES, SWING, THIRDS, THIRDS, THIRDS};
        private static final int[] KID_PART = {0, 1, 0, 0, 1, 2};

        final int[] starts = new int[STARTS];
        final int[] startOf = new int[DIVIDED];
        final int[] startsFor = new int[MOST_DEPTH + 1];
        final int[] dividedFor = new int[MOST_DEPTH + 1];
        final int[] kidStart = new int[DIVIDED * KIDS];
        final int[] kidSpan = new int[DIVIDED * KIDS];
        private final int[] from = new int[DIVIDED];
        private final int[] size = new int[DIVIDED];
        private int startCount = 0;
        private int spanCount = 0;

        Spans() {
            findSpan(0, 0, WHOLE);
            startsFor[0] = startCount;
            int first = 0;
            for (int level = 0; level < MOST_DEPTH; level++) {
                int end = spanCount;
                for (int span = first; span < end; span++) {
                    divide(span, level, end);
                }
                first = end;
                startsFor[level + 1] = startCount;
                dividedFor[level + 1] = end;
            }
        }

        private void divide(int span, int level, int nextLevel) {
            for (int kid = 0; kid < KIDS; kid++) {
                int kidFrom = partFrom(KID_KIND[kid], KID_PART[kid], from[span], size[span]);
                int kidSize = partSize(KID_KIND[kid], KID_PART[kid], size[span]);
                kidStart[span * KIDS + kid] = findStart(kidFrom);
                if (level + 1 < MOST_DEPTH) {
                    kidSpan[span * KIDS + kid] = findSpan(nextLevel, kidFrom, kidSize);
                }
            }
        }

        private int findStart(int place) {
            for (int s = 0; s < startCount; s++) {
                if (starts[s] == place) {
                    return s;
                }
            }
            if (startCount >= STARTS) {
                return 0;
            }
            starts[startCount] = place;
            startCount++;
            return startCount - 1;
        }

        /** Looks only among the SPANS of one LEVEL: how far they may be divided differs by LEVEL. */
        private int findSpan(int levelBegins, int spanFrom, int spanSize) {
            for (int s = levelBegins; s < spanCount; s++) {
                if (from[s] == spanFrom && size[s] == spanSize) {
                    return s;
                }
            }
            if (spanCount >= DIVIDED) {
                return 0;
            }
            from[spanCount] = spanFrom;
            size[spanCount] = spanSize;
            startOf[spanCount] = findStart(spanFrom);
            spanCount++;
            return spanCount - 1;
        }
    }

    /**
     * For one BAR of so many ticks from a TIME on: the least cost of each SPAN with the STROKES from
     * the i-th to the one ahead of the j-th, a table for each SPAN. The first tables are those of
     * LEAVES, one for each place; those of SPANS that may be divided stand behind them.
     */
    private static final class Tables {
        static final int SIDE = MOST_STROKES + 1;
        static final int CELLS = SIDE * SIDE;
        private static final int JOINED = Spans.STARTS + Spans.DIVIDED;

        final Task task = new Task();
        private final Spans spans = new Spans();
        private final int[] cells = new int[(JOINED + 1) * CELLS];
        private final int[] errors = new int[MOST_STROKES];
        private int leafKidsFrom = 0;

        // What decide found: the kind, and the first STROKE of the second and of the third part.
        int kind = LEAF;
        int secondFrom = 0;
        int thirdFrom = 0;

        void measure(int begin, int ticks) {
            leafKidsFrom = task.depth == 0 ? 0 : spans.dividedFor[task.depth - 1];
            for (int start = 0; start < spans.startsFor[task.depth]; start++) {
                measureLeaf(start, begin, ticks);
            }
            for (int span = spans.dividedFor[task.depth] - 1; span >= 0; span--) {
                measureSpan(span);
            }
        }

        int barTable() {
            return task.depth == 0 ? 0 : Spans.STARTS;
        }

        int cell(int table, int i, int j) {
            return cells[table * CELLS + i * SIDE + j];
        }

        boolean isLeafTable(int table) {
            return table < Spans.STARTS;
        }

        /** Where a LEAF in this table's SPAN is written. */
        int place(int table) {
            return spans.starts[isLeafTable(table) ? table : spans.startOf[table - Spans.STARTS]];
        }

        int kidTable(int table, int kid) {
            int span = table - Spans.STARTS;
            return span >= leafKidsFrom
                    ? spans.kidStart[span * Spans.KIDS + kid]
                    : Spans.STARTS + spans.kidSpan[span * Spans.KIDS + kid];
        }

        private int[] prices(int table) {
            return table == Spans.STARTS ? task.barPrice : task.price;
        }

        private void measureLeaf(int start, int begin, int ticks) {
            int many = task.many;
            for (int k = 0; k < many; k++) {
                int error = errorOf(task.times[k], begin, ticks, spans.starts[start]);
                errors[k] = task.errorsForbidden && error > 0 ? UNREACHABLE : error;
            }
            for (int i = 0; i <= many; i++) {
                int row = start * CELLS + i * SIDE;
                int sum = 0;
                cells[row + i] = 0;
                for (int j = i; j < many; j++) {
                    sum += errors[j] + (j > i ? task.gracePrice[j] : 0);
                    cells[row + j + 1] = Math.min(sum, UNREACHABLE);
                }
            }
        }

        private void measureSpan(int span) {
            int table = Spans.STARTS + span;
            int[] price = prices(table);
            int leaf = spans.startOf[span];
            int firstHalf = kidTable(table, Spans.FIRST_HALF);
            int secondHalf = kidTable(table, Spans.SECOND_HALF);
            int lastThird = kidTable(table, Spans.LAST_THIRD);
            joinAheadOfLastThird(table, price);
            for (int i = 0; i <= task.many; i++) {
                for (int j = i; j <= task.many; j++) {
                    int least = Math.min(cell(leaf, i, j) + price[LEAF], UNREACHABLE);
                    // What costs no more than a division alone can not be bettered by it.
                    if (least > price[HALVES]) {
                        least = Math.min(least, price[HALVES] + joint(firstHalf, secondHalf, i, j));
                    }
                    if (least > price[SWING] || least > price[THIRDS]) {
                        least = Math.min(least, joint(JOINED, lastThird, i, j));
                    }
                    cells[table * CELLS + i * SIDE + j] = least;
                }
            }
        }

        /** SWING and THIRDS differ only ahead of the last third: the lesser of both is kept here. */
        private void joinAheadOfLastThird(int table, int[] price) {
            int twoThirds = kidTable(table, Spans.TWO_THIRDS);
            int firstThird = kidTable(table, Spans.FIRST_THIRD);
            int middleThird = kidTable(table, Spans.MIDDLE_THIRD);
            for (int i = 0; i <= task.many; i++) {
                for (int j = i; j <= task.many; j++) {
                    int least = Math.min(UNREACHABLE, price[SWING] + cell(twoThirds, i, j));
                    if (least > price[THIRDS]) {
                        int both = joint(firstThird, middleThird, i, j);
                        least = Math.min(least, price[THIRDS] + both);
                    }
                    cells[JOINED * CELLS + i * SIDE + j] = least;
                }
            }
        }

        /** The least cost of two SPANS, one behind the other, over all ways to deal i to j to them. */
        private int joint(int first, int second, int i, int j) {
            int left = first * CELLS + i * SIDE;
            int right = second * CELLS + j;
            int least = UNREACHABLE;
            for (int m = i; m <= j; m++) {
                int sum = cells[left + m] + cells[right + m * SIDE];
                if (sum < least) {
                    least = sum;
                }
            }
            return least;
        }

        /** Of the ways to write a SPAN at its least cost, that which the document puts ahead. */
        void decide(int table, int i, int j) {
            kind = LEAF;
            if (isLeafTable(table)) {
                return;
            }
            int[] price = prices(table);
            int aim = cell(table, i, j);
            int leaf = spans.startOf[table - Spans.STARTS];
            if (cell(leaf, i, j) + price[LEAF] == aim) {
                return;
            }
            if (!cutInTwo(table, HALVES, i, j, aim - price[HALVES])
                    && !cutInTwo(table, SWING, i, j, aim - price[SWING])) {
                cutInThree(table, i, j, aim - price[THIRDS]);
            }
        }

        private boolean cutInTwo(int table, int way, int i, int j, int aim) {
            int first = kidTable(table, way == HALVES ? Spans.FIRST_HALF : Spans.TWO_THIRDS);
            int second = kidTable(table, way == HALVES ? Spans.SECOND_HALF : Spans.LAST_THIRD);
            for (int m = i; m <= j; m++) {
                if (cell(first, i, m) + cell(second, m, j) == aim) {
                    kind = way;
                    secondFrom = m;
                    thirdFrom = j;
                    return true;
                }
            }
            return false;
        }

        private void cutInThree(int table, int i, int j, int aim) {
            int first = kidTable(table, Spans.FIRST_THIRD);
            int middle = kidTable(table, Spans.MIDDLE_THIRD);
            int last = kidTable(table, Spans.LAST_THIRD);
            for (int m = i; m <= j; m++) {
                for (int n = m; n <= j; n++) {
                    if (cell(first, i, m) + cell(middle, m, n) + cell(last, n, j) == aim) {
                        kind = THIRDS;
                        secondFrom = m;
                        thirdFrom = n;
                        return;
                    }
                }
            }
        }
    }

    private static int errorOf(int t, int begin, int ticks, int place) {
        return Math.abs(WHOLE * (t - begin) - ticks * place);
    }

    /**
     * The least cost over all BARS, found from the last BAR to the first. A BAR's ticks are told by
     * its bends (-1, 0 or 1 BEND more than LENGTH), where it begins by the bends of all BARS ahead
     * together (its lean).
     */
    private static final class Search {
        private static final int LEANS = 2 * (MOST_BARS - 1) + 1;
        private static final int BENDS = 3;

        private final Tables tables = new Tables();
        final Task task = tables.task;
        // For a BAR, its lean, its bends, its first STROKE: the least cost of it and all behind it.
        private final int[] onward = new int[MOST_BARS * LEANS * BENDS * Tables.SIDE];
        private final int[] behind = new int[Tables.SIDE];

        int leastCost() {
            for (int b = task.bars - 1; b >= 0; b--) {
                for (int lean = -b * reach(); lean <= b * reach(); lean++) {
                    for (int bends = -reach(); bends <= reach(); bends++) {
                        weighBar(b, lean, bends);
                    }
                }
            }
            return leastFrom(0, 0, 0, 0);
        }

        /** Goes by what leastCost has just found. */
        void writeBars(Writing writing) {
            int lean = 0;
            int before = 0;
            int first = 0;
            for (int b = 0; b < task.bars; b++) {
                int bends = shortestBest(b, lean, before, first);
                tables.measure(beginOf(b, lean), ticksOf(bends));
                weighBehind(b, lean, bends);
                int end = fewestBest(b, lean, bends, first);
                writing.beginBar(b, beginOf(b, lean), ticksOf(bends), first, end);
                writing.change(Math.abs(bends - before) * task.bend);
                writeSpan(writing, tables.barTable(), 0, first, end);
                lean += bends;
                before = bends;
                first = end;
            }
        }

        /** Without a BEND all three lengths are one. */
        private int reach() {
            return task.bend == 0 ? 0 : 1;
        }

        private int beginOf(int b, int lean) {
            return b * task.length + lean * task.bend;
        }

        private int ticksOf(int bends) {
            return task.length + bends * task.bend;
        }

        private void weighBehind(int b, int lean, int bends) {
            for (int j = 0; j <= task.many; j++) {
                behind[j] = leastFrom(b + 1, lean + bends, bends, j);
            }
        }

        private void weighBar(int b, int lean, int bends) {
            tables.measure(beginOf(b, lean), ticksOf(bends));
            weighBehind(b, lean, bends);
            int table = tables.barTable();
            int at = onwardAt(b, lean, bends);
            // The first BAR always has the first STROKES.
            int lastFirst = b == 0 ? 0 : task.many;
            for (int i = 0; i <= lastFirst; i++) {
                int least = UNREACHABLE;
                for (int j = i; j <= task.many; j++) {
                    least = Math.min(least, tables.cell(table, i, j) + behind[j]);
                }
                onward[at + i] = least;
            }
        }

        private static int onwardAt(int b, int lean, int bends) {
            return ((b * LEANS + lean + MOST_BARS - 1) * BENDS + bends + 1) * Tables.SIDE;
        }

        /** The least cost of BAR b and all behind it, if the BAR ahead has these bends. */
        private int leastFrom(int b, int lean, int before, int first) {
            if (b >= task.bars) {
                return first == task.many ? 0 : UNREACHABLE;
            }
            int least = UNREACHABLE;
            for (int bends = -reach(); bends <= reach(); bends++) {
                least = Math.min(least, costWith(b, lean, before, bends, first));
            }
            return least;
        }

        private int costWith(int b, int lean, int before, int bends, int first) {
            int change = Math.abs(bends - before) * task.bend * task.changePrice;
            return change + onward[onwardAt(b, lean, bends) + first];
        }

        private int shortestBest(int b, int lean, int before, int first) {
            int least = leastFrom(b, lean, before, first);
            for (int bends = -reach(); bends < reach(); bends++) {
                if (costWith(b, lean, before, bends, first) == least) {
                    return bends;
                }
            }
            return reach();
        }

        private int fewestBest(int b, int lean, int bends, int first) {
            int table = tables.barTable();
            int least = onward[onwardAt(b, lean, bends) + first];
            for (int j = first; j < task.many; j++) {
                if (tables.cell(table, first, j) + behind[j] == least) {
                    return j;
                }
            }
            return task.many;
        }

        private void writeSpan(Writing writing, int table, int level, int i, int j) {
            tables.decide(table, i, j);
            int kind = tables.kind;
            if (kind == LEAF || level >= MOST_DEPTH) {
                writing.leaf(task, tables.place(table), level, i, j);
                return;
            }
            int second = tables.secondFrom;
            int third = tables.thirdFrom;
            writing.divide(kind);
            if (kind == HALVES) {
                writeSpan(writing, tables.kidTable(table, Spans.FIRST_HALF), level + 1, i, second);
                writeSpan(writing, tables.kidTable(table, Spans.SECOND_HALF), level + 1, second, j);
            } else if (kind == SWING) {
                writeSpan(writing, tables.kidTable(table, Spans.TWO_THIRDS), level + 1, i, second);
                writeSpan(writing, tables.kidTable(table, Spans.LAST_THIRD), level + 1, second, j);
            } else {
                writeSpan(writing, tables.kidTable(table, Spans.FIRST_THIRD), level + 1, i, second);
                writeSpan(writing, tables.kidTable(table, Spans.MIDDLE_THIRD), level + 1, second, third);
                writeSpan(writing, tables.kidTable(table, Spans.LAST_THIRD), level + 1, third, j);
            }
            writing.close(kind);
        }
    }

    /** THE BEST WRITING, in the numbers and signs that the calls answer with. */
    private static final class Writing {
        static final int BAR_FACTS = 9, STROKE_FACTS = 6, TALLIES = 7;
        private static final int TICKS = 0, BEGINS = 1, FIRST = 2, MANY = 3, DIVISIONS = 4,
                LEAVES = 5, DEEPEST = 6, ERRORS = 7, GRACES = 8;
        private static final int ALL_GRACES = 3, WITHOUT_ERROR = 4, CHANGES = 5, FILLED_LEAVES = 6;
        // 8 STROKES fill 49 signs at most: no SPAN without STROKES is divided.
        private static final int SIGNS = 64;

        int total = 0;
        private final int[] bars = new int[MOST_BARS * BAR_FACTS];
        private final int[] strokes = new int[MOST_STROKES * STROKE_FACTS];
        private final int[] tallies = new int[TALLIES];
        private final int[] signs = new int[MOST_BARS * SIGNS];
        private final int[] lengths = new int[MOST_BARS];
        private int b = 0;

        int barFact(int number, int what) {
            return bars[number * BAR_FACTS + what];
        }

        int strokeFact(int k, int what) {
            return strokes[k * STROKE_FACTS + what];
        }

        int tally(int what) {
            return tallies[what];
        }

        int sign(int number, int i) {
            return i < lengths[number] ? signs[number * SIGNS + i] : NONE;
        }

        void open(int leastCost) {
            total = leastCost;
            for (int what = 0; what < TALLIES; what++) {
                tallies[what] = 0;
            }
        }

        void beginBar(int number, int begins, int ticks, int first, int end) {
            b = number;
            lengths[b] = 0;
            for (int what = 0; what < BAR_FACTS; what++) {
                bars[b * BAR_FACTS + what] = 0;
            }
            bars[b * BAR_FACTS + TICKS] = ticks;
            bars[b * BAR_FACTS + BEGINS] = begins;
            bars[b * BAR_FACTS + FIRST] = first;
            bars[b * BAR_FACTS + MANY] = end - first;
        }

        void change(int ticks) {
            tallies[CHANGES] += ticks;
        }

        void divide(int kind) {
            tallies[kind - HALVES]++;
            bars[b * BAR_FACTS + DIVISIONS]++;
            put(Sheet.OPENING.charAt(kind));
        }

        void close(int kind) {
            put(Sheet.CLOSING.charAt(kind));
        }

        void leaf(Task task, int place, int level, int i, int j) {
            int at = b * BAR_FACTS;
            bars[at + LEAVES]++;
            bars[at + DEEPEST] = Math.max(bars[at + DEEPEST], level);
            if (j == i) {
                put('-');
                return;
            }
            put('0' + j - i);
            tallies[FILLED_LEAVES]++;
            for (int k = i; k < j; k++) {
                note(task, k, place, level, j - i, k > i && task.clashes(k));
            }
        }

        private void note(Task task, int k, int place, int level, int together, boolean grace) {
            int bar = b * BAR_FACTS;
            int error = errorOf(task.times[k], bars[bar + BEGINS], bars[bar + TICKS], place);
            int at = k * STROKE_FACTS;
            strokes[at] = b;
            strokes[at + 1] = place;
            strokes[at + 2] = error;
            strokes[at + 3] = together;
            strokes[at + 4] = grace ? 1 : 0;
            strokes[at + 5] = level;
            bars[bar + ERRORS] += error;
            if (error == 0) {
                tallies[WITHOUT_ERROR]++;
            }
            if (grace) {
                bars[bar + GRACES]++;
                tallies[ALL_GRACES]++;
            }
        }

        private void put(int sign) {
            if (lengths[b] < SIGNS) {
                signs[b * SIGNS + lengths[b]] = sign;
                lengths[b]++;
            }
        }
    }
}
