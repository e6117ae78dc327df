/**
 * Carries led by nets of joining cells, blocks of a sum, runs of carries, heaps of bits and sheets of heights.
 * Words in capitals are those of the document. No call makes an object: all rows are made with the object.
 */
public final class CarryNets {
    public static final int BAD = -1, STATE = -2, FULL = -3, NONE = -4;

    private static final int MOST_NETS = 8;
    private static final int MOST_PLACES = 32;
    private static final int MOST_ROWS = 32;
    private static final int DOUBLINGS = 5;
    private static final int TAPE_BYTES = 240;
    private static final int LAWS_OF_NETS = 5;
    private static final int MOST_BEST_PLACES = 7;
    private static final int MOST_BEST_ROWS = 6;
    private static final int MOST_BEST_LOAD = 6;
    private static final int MOST_BLOCKS = 12;
    private static final int MOST_SIZE = 15;
    private static final int MOST_RUN_BITS = 31;
    private static final int MOST_MEAN_BITS = 15;
    private static final int COLUMNS = 12;
    private static final int MOST_HEIGHT = 12;
    private static final int MOST_PRODUCT_BITS = 6;
    private static final int MOST_FACTOR = 65535;
    private static final int MOST_OTHER_FACTOR = 32767;
    private static final int LAST_DIGIT = 8;
    private static final int SHEETS = 4;
    private static final int LANES = 3;
    private static final int MOST_SHEET_CELLS = 60;
    private static final int FAULT_BASE = -10;
    private static final int NO_HEIGHT_BASE = -20;

    private final Net[] netRow = new Net[MOST_NETS];
    private int netsHeld;
    private final Tape tape = new Tape();
    private final Spans spans = new Spans();
    private final Judge judge = new Judge();
    private final Clock clock = new Clock();
    private final BestNets bestNets = new BestNets();
    private final Blocks bestBlocks = new Blocks();
    private final long[] pairs = new long[MOST_RUN_BITS + 1];
    private final Columns columns = new Columns();
    private final Columns trial = new Columns();
    private final Sheet[] sheetRow = new Sheet[SHEETS];

    public CarryNets() {
        for (int k = 0; k < netRow.length; k++) {
            netRow[k] = new Net();
        }
        for (int k = 0; k < sheetRow.length; k++) {
            sheetRow[k] = new Sheet();
        }
    }

    // ---- nets

    public int feed(long v) {
        return tape.append(v) ? tape.length : FULL;
    }

    public int end(int n) {
        if (n < 0 || n > tape.length) {
            return BAD;
        }
        int had = tape.length;
        tape.length = n;
        return had;
    }

    public int text() {
        Net free = freeNet();
        if (free == null) {
            return FULL;
        }
        boolean good = tape.tells(free);
        tape.length = 0;
        return good ? keepNet() : FAULT_BASE - tape.faultPlace();
    }

    public int fault() {
        return tape.fault;
    }

    public int net(int n, int law) {
        if (n < 2 || n > MOST_PLACES || law < 0 || law >= LAWS_OF_NETS) {
            return BAD;
        }
        Net free = freeNet();
        if (free == null) {
            return FULL;
        }
        Laws.fill(free, n, law);
        return keepNet();
    }

    public int drop() {
        if (netsHeld == 0) {
            return NONE;
        }
        netsHeld--;
        return netsHeld;
    }

    public int told(int k, int what) {
        Net net = netNumbered(k);
        if (net == null) {
            return BAD;
        }
        if (what >= 100 && what < 100 + net.depth) {
            return Integer.bitCount(net.row(what - 100));
        }
        if (what >= 200 && what < 200 + net.places) {
            return net.last.lowOf(what - 200);
        }
        judge.look(net);
        switch (what) {
            case 0: return net.places;
            case 1: return net.depth;
            case 2: return judge.cells;
            case 3: return net.last.whole() ? 1 : 0;
            case 4: return judge.greatestLoad;
            case 5: return judge.allWays;
            case 6: return judge.mostTracks;
            case 7: return judge.longestWay;
            default: return BAD;
        }
    }

    public int cell(int k, int r, int i, int what) {
        Net net = netNumbered(k);
        if (net == null || r < 0 || r >= net.depth || i < 0 || i >= net.places) {
            return BAD;
        }
        spans.begin(net.places);
        for (int row = 0; row <= r; row++) {
            spans.join(net.row(row));
        }
        switch (what) {
            case 0: return spans.takenBy(i);
            case 1: return spans.lowOf(i);
            case 2: return spans.loadOf(i);
            default: return BAD;
        }
    }

    public int pace(int c, int f) {
        if (c < 1 || c > 9 || f < 0 || f > 9) {
            return BAD;
        }
        clock.perCell = c;
        clock.perFurther = f;
        return 1;
    }

    public int start(int i, int t) {
        if (i < 0 || i >= MOST_PLACES || t < 0 || t > 99) {
            return BAD;
        }
        int was = at(clock.starts, i);
        put(clock.starts, i, t);
        return was;
    }

    public int time(int k, int i) {
        Net net = netNumbered(k);
        if (net == null || i != NONE && (i < 0 || i >= net.places)) {
            return BAD;
        }
        clock.follow(net);
        return i == NONE ? clock.latest(net.places) : clock.readyAt(i);
    }

    public long sum(int k, int a, int b, boolean in, int what) {
        Net net = netNumbered(k);
        if (net == null || what < 0 || what > 1) {
            return BAD;
        }
        if (!net.last.whole()) {
            return STATE;
        }
        return what == 0 ? sumBits(net.places, a, b, in) : carryBits(net.places, a, b, in);
    }

    public int best(int n, int d, int f, int what) {
        if (!bestIsTold(n, d, f) || what < 0 || what > 1) {
            return BAD;
        }
        if (!bestNets.search(n, d, f)) {
            return NONE;
        }
        return what == 0 ? bestNets.fewestCells : bestNets.howMany;
    }

    // NONE comes ahead of FULL here: promise 15 tells them in this order.
    public int made(int n, int d, int f) {
        if (!bestIsTold(n, d, f)) {
            return BAD;
        }
        if (!bestNets.search(n, d, f)) {
            return NONE;
        }
        Net free = freeNet();
        if (free == null) {
            return FULL;
        }
        bestNets.fillLeast(free);
        return keepNet();
    }

    // ---- blocks

    public int blocks(long sizes, int kind, int s) {
        if (!kindIsTold(kind, s) || !Blocks.areTold(sizes)) {
            return BAD;
        }
        return Blocks.worst(sizes, kind, s);
    }

    public long sizes(int n, int kind, int s, int what) {
        if (n < 1 || n > MOST_PLACES || !kindIsTold(kind, s) || what < 0 || what > 1) {
            return BAD;
        }
        long figures = kind == 0 ? bestBlocks.skipFigures(n, s) : Blocks.choiceFigures(n);
        return what == 0 ? Blocks.worst(figures, kind, s) : figures;
    }

    // ---- runs

    public int run(int n, int a, int b) {
        if (n < 1 || n > MOST_RUN_BITS || !hasBits(a, n) || !hasBits(b, n)) {
            return BAD;
        }
        int longest = 0;
        int length = 0;
        for (int i = 0; i < n; i++) {
            int ones = (a >> i & 1) + (b >> i & 1);
            if (ones == 2) {
                length = 1;
            } else if (ones == 0) {
                length = 0;
            } else if (length > 0) {
                length++;
            }
            longest = Math.max(longest, length);
        }
        return longest;
    }

    public long runs(int n, int k) {
        if (n < 1 || n > MOST_RUN_BITS || k < 0 || k > n) {
            return BAD;
        }
        return pairsRunningAtMost(n, k);
    }

    public long mean(int n, int what) {
        if (n < 1 || n > MOST_MEAN_BITS || what < 0 || what > 1) {
            return BAD;
        }
        long below = 1L << 2 * n;
        long above = 0;
        for (int k = 0; k < n; k++) {
            above += below - pairsRunningAtMost(n, k);
        }
        // The denominator is a power of 2, so halving both is all that lowest terms need.
        for (int halving = 0; halving < 2 * MOST_MEAN_BITS && ((above | below) & 1) == 0; halving++) {
            above >>= 1;
            below >>= 1;
        }
        return what == 0 ? above : below;
    }

    // ---- heaps

    public int height(int column, int h) {
        if (column < 0 || column >= COLUMNS || h < 0 || h > MOST_HEIGHT) {
            return BAD;
        }
        int was = columns.heightOf(column);
        columns.setHeight(column, h);
        return was;
    }

    public int product(int p, int q) {
        if (p < 1 || p > MOST_PRODUCT_BITS || q < 1 || q > MOST_PRODUCT_BITS) {
            return BAD;
        }
        columns.clear();
        for (int i = 0; i < p; i++) {
            for (int j = 0; j < q; j++) {
                columns.setHeight(i + j, columns.heightOf(i + j) + 1);
            }
        }
        return columns.greatest();
    }

    public int down(int law) {
        if (law < 0 || law > 1) {
            return BAD;
        }
        if (columns.done()) {
            return STATE;
        }
        columns.clearTallies();
        columns.bringDown(law);
        return columns.threes;
    }

    public int downs(int law, int what) {
        if (law < 0 || law > 1 || what < 0 || what > 3) {
            return BAD;
        }
        if (columns.done()) {
            return STATE;
        }
        trial.copy(columns);
        trial.clearTallies();
        int rows = 0;
        // Each ROW takes bits away or brings the greatest HEIGHT down, so that there are never more ROWS than bits.
        while (rows < COLUMNS * MOST_HEIGHT && !trial.done()) {
            trial.bringDown(law);
            rows++;
        }
        switch (what) {
            case 0: return rows;
            case 1: return trial.threes;
            case 2: return trial.twos;
            default: return trial.lost;
        }
    }

    public int heap(int what) {
        if (what >= 0 && what < COLUMNS) {
            return columns.heightOf(what);
        }
        switch (what) {
            case 20: return columns.greatest();
            case 21: return columns.allBits();
            case 22: return columns.done() ? 1 : 0;
            case 23: return columns.filled();
            default: return BAD;
        }
    }

    public int digit(int v, int k) {
        if (v < 0 || v > MOST_FACTOR || k < 0 || k > LAST_DIGIT) {
            return FAULT_BASE;
        }
        return digitByFours(v, k);
    }

    public long times(int v, int w, int k, int what) {
        if (v < 0 || v > MOST_FACTOR || what < 0 || what > 1) {
            return BAD;
        }
        if (what == 0) {
            return digitsNotZero(v);
        }
        Net net = netNumbered(k);
        if (w < 0 || w > MOST_OTHER_FACTOR || net == null) {
            return BAD;
        }
        if (net.places != MOST_PLACES || !net.last.whole()) {
            return STATE;
        }
        return productByDigits(v, w);
    }

    // ---- sheets

    public int sheet(int k, int lane, int n) {
        Sheet asked = sheetNumbered(k);
        if (asked == null || lane < 0 || lane >= LANES || n > MOST_SHEET_CELLS) {
            return BAD;
        }
        if (n < 0) {
            return FAULT_BASE - Sheet.SIZE_FAULT;
        }
        asked.renew(lane, n);
        return 1;
    }

    public int lay(int k, int i, int v) {
        Sheet asked = sheetNumbered(k);
        if (asked == null) {
            return BAD;
        }
        if (asked.isNothing()) {
            return FAULT_BASE - Sheet.NULL_FAULT;
        }
        if (!asked.hasCell(i)) {
            return FAULT_BASE - Sheet.INDEX_FAULT;
        }
        asked.write(i, v);
        return 1;
    }

    public int heights(int k, int lane, int f, int n) {
        Sheet asked = sheetNumbered(k);
        if (asked == null || lane < 0 || lane >= LANES || n < 1 || n > COLUMNS) {
            return BAD;
        }
        int refusal = asked.refusal(lane, f, n);
        if (refusal != 0) {
            return refusal;
        }
        columns.clear();
        for (int c = 0; c < n; c++) {
            columns.setHeight(c, asked.read(f + c));
        }
        return columns.allBits();
    }

    public int count(int what) {
        switch (what) {
            case 0: return netsHeld;
            case 1: return clock.perCell;
            case 2: return clock.perFurther;
            case 3: return tape.length;
            case 4: return cellsOfFirstSheet();
            default: return BAD;
        }
    }

    // ---- helpers

    // Each index is looked at here, so that no row can be asked for what it does not have.
    private static int at(int[] row, int i) {
        return i >= 0 && i < row.length ? row[i] : 0;
    }

    private static void put(int[] row, int i, int v) {
        if (i >= 0 && i < row.length) {
            row[i] = v;
        }
    }

    private Net netNumbered(int k) {
        return k >= 0 && k < netsHeld && k < netRow.length ? netRow[k] : null;
    }

    /** Where the next NET is written before it is kept; null: there is no room. */
    private Net freeNet() {
        return netsHeld >= 0 && netsHeld < netRow.length ? netRow[netsHeld] : null;
    }

    private int keepNet() {
        netsHeld++;
        return netsHeld - 1;
    }

    private static boolean bestIsTold(int n, int d, int f) {
        return n >= 2 && n <= MOST_BEST_PLACES && d >= 1 && d <= MOST_BEST_ROWS && f >= 1 && f <= MOST_BEST_LOAD;
    }

    private static boolean kindIsTold(int kind, int s) {
        return kind == 1 || kind == 0 && s >= 1 && s <= 9;
    }

    private static boolean hasBits(int v, int n) {
        return v >= 0 && v < 1L << n;
    }

    // All SPANS of a WHOLE NET reach down to 0, so its carries are those of the plain sum.
    private static long plainSum(int n, int a, int b, boolean in) {
        return (a & bitsBelow(n)) + (b & bitsBelow(n)) + (in ? 1 : 0);
    }

    private static long sumBits(int n, int a, int b, boolean in) {
        return plainSum(n, a, b, in) & bitsBelow(n);
    }

    private static long carryBits(int n, int a, int b, boolean in) {
        // A bit of the sum differs from its two bits' own sum just where a carry came in.
        return (plainSum(n, a, b, in) ^ (a ^ b) & bitsBelow(n)) >> 1;
    }

    private static long bitsBelow(int n) {
        return (1L << n) - 1;
    }

    // pairs[c]: those read so far whose open carry has gone through c PLACES (0: there is none).
    private long pairsRunningAtMost(int n, int k) {
        for (int c = 0; c < pairs.length; c++) {
            pairs[c] = c == 0 ? 1 : 0;
        }
        int longest = Math.min(k, pairs.length - 1);
        for (int i = 0; i < n; i++) {
            long all = pairsInAll();
            long without = pairs[0];
            for (int c = longest; c > 1; c--) {
                pairs[c] = 2 * pairs[c - 1];
            }
            if (longest > 0) {
                pairs[1] = all;
            }
            pairs[0] = all + 2 * without;
        }
        return pairsInAll();
    }

    private long pairsInAll() {
        long all = 0;
        for (long some : pairs) {
            all += some;
        }
        return all;
    }

    private static int digitByFours(int v, int k) {
        // One 0 goes behind the lowest bit, as bit -1.
        int three = v << 1 >> 2 * k & 7;
        return (three & 1) + (three >> 1 & 1) - 2 * (three >> 2);
    }

    private static int digitsNotZero(int v) {
        int some = 0;
        for (int k = 0; k <= LAST_DIGIT; k++) {
            if (digitByFours(v, k) != 0) {
                some++;
            }
        }
        return some;
    }

    private static long productByDigits(int v, int w) {
        long sum = 0;
        for (int k = 0; k <= LAST_DIGIT; k++) {
            sum = sumBits(MOST_PLACES, (int) sum, w * digitByFours(v, k) << 2 * k, false);
        }
        return sum;
    }

    private Sheet sheetNumbered(int k) {
        return k >= 0 && k < sheetRow.length ? sheetRow[k] : null;
    }

    private int cellsOfFirstSheet() {
        Sheet first = sheetNumbered(0);
        return first == null || first.isNothing() ? NONE : first.size;
    }

    /** How far down each PLACE's SPAN goes, and what the latest ROW took. */
    private static final class Spans {
        private int places;
        private final int[] low = new int[MOST_PLACES];
        private final int[] taken = new int[MOST_PLACES];
        private final int[] load = new int[MOST_PLACES];

        void begin(int n) {
            places = n;
            for (int i = 0; i < n; i++) {
                put(low, i, i);
            }
        }

        void join(int row) {
            for (int i = 0; i < places; i++) {
                put(taken, i, NONE);
                put(load, i, 0);
            }
            // From above: what lies below a CELL is still as it was ahead of the ROW.
            for (int i = places - 1; i > 0; i--) {
                int j = at(low, i) - 1;
                if ((row >>> i & 1) != 0 && j >= 0) {
                    put(taken, i, j);
                    put(load, j, at(load, j) + 1);
                    put(low, i, at(low, j));
                }
            }
        }

        /** The PLACES whose SPAN does not reach 0, as bits. */
        int openPlaces() {
            int open = 0;
            for (int i = 0; i < places; i++) {
                if (at(low, i) > 0) {
                    open |= 1 << i;
                }
            }
            return open;
        }

        boolean whole() {
            return openPlaces() == 0;
        }

        int lowOf(int i) {
            return at(low, i);
        }

        /** How many CELLS of the latest ROW took PLACE i. */
        int loadOf(int i) {
            return at(load, i);
        }

        /** The PLACE that the CELL at i took in the latest ROW; NONE: it has no CELL there. */
        int takenBy(int i) {
            return at(taken, i);
        }
    }

    /** A NET: its ROWS, each as bits of the PLACES of its CELLS. */
    private static final class Net {
        int places;
        int depth;
        final Spans last = new Spans();
        private final int[] rows = new int[MOST_ROWS];

        void begin(int n) {
            places = n;
            depth = 0;
            last.begin(n);
        }

        /** A PLACE whose SPAN reaches 0 gets no CELL, and a ROW without CELLS is left out. */
        void addRow(int cells) {
            int row = cells & last.openPlaces();
            if (row != 0 && depth < MOST_ROWS) {
                put(rows, depth, row);
                depth++;
                last.join(row);
            }
        }

        int row(int r) {
            return at(rows, r);
        }
    }

    /** NETS by known LAWS. */
    private static final class Laws {
        private static final int ONE = 0, HALVES = 1, DOUBLES = 2, UP = 3, DOWN = 4, ODD_DOUBLES = 5, EVENS = 6;

        static void fill(Net net, int n, int law) {
            net.begin(n);
            switch (law) {
                case 0: oneByOne(net); break;
                case 1: doubling(net, HALVES); break;
                case 2: doubling(net, DOUBLES); break;
                case 3: upAndDown(net); break;
                default:
                    doubling(net, ODD_DOUBLES);
                    addRow(net, EVENS, 0);
            }
        }

        private static void oneByOne(Net net) {
            for (int r = 0; r + 1 < net.places; r++) {
                addRow(net, ONE, r);
            }
        }

        private static void doubling(Net net, int kind) {
            for (int r = 0; r < DOUBLINGS && 1 << r < net.places; r++) {
                addRow(net, kind, r);
            }
        }

        private static void upAndDown(Net net) {
            int ups = 0;
            for (int r = 0; r < DOUBLINGS && 2 << r <= net.places; r++) {
                addRow(net, UP, r);
                ups++;
            }
            for (int r = ups - 1; r >= 0; r--) {
                addRow(net, DOWN, r);
            }
        }

        private static void addRow(Net net, int kind, int r) {
            int cells = 0;
            for (int i = 0; i < net.places; i++) {
                if (hasCell(kind, r, i)) {
                    cells |= 1 << i;
                }
            }
            net.addRow(cells);
        }

        private static boolean hasCell(int kind, int r, int i) {
            int power = 1 << r;
            switch (kind) {
                case ONE: return i == r + 1;
                case HALVES: return (i & power) != 0;
                case DOUBLES: return i >= power;
                case UP: return (i + 1 & 2 * power - 1) == 0;
                case DOWN: return (i + 1 & 2 * power - 1) == power && i >= 2 * power;
                case ODD_DOUBLES: return (i & 1) == 1 && i >= power;
                default: return (i & 1) == 0 && i >= 2;
            }
        }
    }

    /** THE TAPE, and the reading of a NET from it. */
    private static final class Tape {
        private static final int END = -1, NUMBER = -2, NO_TOKEN = -3;

        int length;
        int fault;
        private final byte[] bytes = new byte[TAPE_BYTES];
        private int place;
        private int token;
        private int tokenPlace;
        private int value;

        boolean append(long v) {
            if (length < 0 || length + 8 > bytes.length) {
                return false;
            }
            for (int b = 0; b < 8; b++) {
                bytes[length + b] = (byte) (v >> 56 - 8 * b);
            }
            length += 8;
            return true;
        }

        /** Whether the text tells a NET; if not, fault and faultPlace() tell why. */
        boolean tells(Net net) {
            fault = 0;
            place = 0;
            readToken();
            if (token != NUMBER) {
                return refuseToken();
            }
            if (value < 2 || value > MOST_PLACES) {
                return refuse(3);
            }
            net.begin(value);
            readToken();
            if (token != ':') {
                return refuseToken();
            }
            // The ROW beyond the last that may be refuses itself.
            for (int r = 0; r <= MOST_ROWS; r++) {
                readToken();
                if (token == END) {
                    return true;
                }
                if (!readRow(net, r)) {
                    return false;
                }
            }
            return refuse(5);
        }

        int faultPlace() {
            return tokenPlace;
        }

        private boolean readRow(Net net, int r) {
            int cells = 0;
            // A PLACE comes but once in a ROW, so that no ROW has as many NUMBERS as THE TAPE has bytes.
            for (int c = 0; c < TAPE_BYTES; c++) {
                if (token != NUMBER) {
                    return refuseToken();
                }
                if (r >= MOST_ROWS) {
                    return refuse(5);
                }
                if (value >= net.places) {
                    return refuse(3);
                }
                if (((net.last.openPlaces() & ~cells) >>> value & 1) == 0) {
                    return refuse(4);
                }
                cells |= 1 << value;
                readToken();
                if (token == ';') {
                    net.addRow(cells);
                    return true;
                }
                if (token != ',') {
                    return refuseToken();
                }
                readToken();
            }
            return refuse(4);
        }

        private boolean refuse(int why) {
            fault = why;
            return false;
        }

        private boolean refuseToken() {
            return refuse(token == NO_TOKEN ? 1 : 2);
        }

        private void readToken() {
            while (place < length && byteAt(place) == ' ') {
                place++;
            }
            tokenPlace = place;
            int sign = byteAt(place);
            if (isFigure(sign)) {
                readNumber();
                return;
            }
            boolean known = sign == END || sign == ':' || sign == ',' || sign == ';';
            token = known ? sign : NO_TOKEN;
            place++;
        }

        private void readNumber() {
            value = 0;
            while (place < length && isFigure(byteAt(place))) {
                value = Math.min(10 * value + byteAt(place) - '0', 999);
                place++;
            }
            token = place - tokenPlace > 2 ? NO_TOKEN : NUMBER;
        }

        private int byteAt(int p) {
            return p >= 0 && p < length && p < bytes.length ? bytes[p] & 255 : END;
        }

        private static boolean isFigure(int sign) {
            return sign >= '0' && sign <= '9';
        }
    }

    /** What there is to tell of a NET as a whole. */
    private static final class Judge {
        int cells;
        int greatestLoad;
        int allWays;
        int mostTracks;
        int longestWay;
        private final Spans spans = new Spans();
        private final int[] beginLessEnd = new int[MOST_PLACES];

        void look(Net net) {
            cells = 0;
            greatestLoad = 0;
            allWays = 0;
            mostTracks = 0;
            longestWay = 0;
            spans.begin(net.places);
            for (int r = 0; r < net.depth; r++) {
                spans.join(net.row(r));
                lookAtCells(net.places);
                lookAtTracks();
            }
        }

        private void lookAtCells(int n) {
            for (int i = 0; i < beginLessEnd.length; i++) {
                beginLessEnd[i] = 0;
            }
            for (int i = 0; i < n; i++) {
                greatestLoad = Math.max(greatestLoad, spans.loadOf(i));
                int j = spans.takenBy(i);
                if (j != NONE) {
                    cells++;
                    allWays += i - j;
                    longestWay = Math.max(longestWay, i - j);
                    put(beginLessEnd, j, at(beginLessEnd, j) + 1);
                    put(beginLessEnd, i, at(beginLessEnd, i) - 1);
                }
            }
        }

        private void lookAtTracks() {
            int over = 0;
            for (int turn : beginLessEnd) {
                over += turn;
                mostTracks = Math.max(mostTracks, over);
            }
        }
    }

    /** When the carries come. */
    private static final class Clock {
        int perCell = 2;
        int perFurther = 1;
        final int[] starts = new int[MOST_PLACES];
        private final int[] ready = new int[MOST_PLACES];
        private final Spans spans = new Spans();

        void follow(Net net) {
            for (int i = 0; i < net.places; i++) {
                put(ready, i, at(starts, i));
            }
            spans.begin(net.places);
            for (int r = 0; r < net.depth; r++) {
                spans.join(net.row(r));
                passRow(net.places);
            }
        }

        int readyAt(int i) {
            return at(ready, i);
        }

        int latest(int n) {
            int latest = 0;
            for (int i = 0; i < n; i++) {
                latest = Math.max(latest, readyAt(i));
            }
            return latest;
        }

        private void passRow(int n) {
            // From above: the times below a CELL are still those ahead of the ROW.
            for (int i = n - 1; i > 0; i--) {
                int j = spans.takenBy(i);
                if (j != NONE) {
                    int begun = Math.max(readyAt(i), readyAt(j));
                    put(ready, i, begun + perCell + perFurther * (spans.loadOf(j) - 1));
                }
            }
        }
    }

    /**
     * BEST NETS. A state is low(i) of all PLACES, 3 bits each. Each PLACE above 0 needs one CELL that brings it
     * to 0; CELLS that do not are spare ones, and the fewest CELLS are those with the fewest spare ones.
     */
    private static final class BestNets {
        private static final int MOST_SPARE = MOST_BEST_PLACES * MOST_BEST_ROWS;

        int fewestCells;
        int howMany;
        private int places;
        private int rows;
        private int mostLoad;
        private final int[] rowsNow = new int[MOST_BEST_ROWS];
        private final int[] leastRows = new int[MOST_BEST_ROWS];
        private boolean leastFound;

        /** Whether there is a NET of n PLACES, at most d ROWS, LOADS of at most f. */
        boolean search(int n, int d, int f) {
            places = n;
            rows = d;
            mostLoad = f;
            leastFound = false;
            for (int spare = 0; spare <= MOST_SPARE; spare++) {
                howMany = waysOn(startState(), d, spare);
                if (howMany > 0) {
                    fewestCells = n - 1 + spare;
                    return true;
                }
            }
            return false;
        }

        /** Writes the NET with the least ROWS of those that the latest search found. */
        void fillLeast(Net net) {
            net.begin(places);
            for (int row : leastRows) {
                net.addRow(row);
            }
        }

        /** How many NETS go on from a state with so many ROWS at most and just so many spare CELLS. */
        private int waysOn(int state, int rowsLeft, int spare) {
            if (state == 0) {
                return spare == 0 ? found(rowsLeft) : 0;
            }
            // One ROW can but halve a chain of SPANS, so a longer chain can not be brought down any more.
            if (rowsLeft <= 0 || longestChain(state) >= 1 << rowsLeft) {
                return 0;
            }
            return waysByRows(state, rowsLeft, spare);
        }

        private int waysByRows(int state, int rowsLeft, int spare) {
            int open = openPlaces(state);
            int unready = unreadyPlaces(state);
            int ways = 0;
            // The last ROW can but take all that is open.
            for (int row = rowsLeft == 1 ? open : 2; row <= open; row += 2) {
                int left = (row & ~open) == 0 ? spare - Integer.bitCount(row & unready) : NONE;
                if (left >= 0 && loadsFit(state, row)) {
                    put(rowsNow, rows - rowsLeft, row);
                    ways += waysOn(joined(state, row), rowsLeft - 1, left);
                }
            }
            return ways;
        }

        // ROWS are tried from the least on, so that the first NET found is the least of all.
        private int found(int rowsLeft) {
            if (!leastFound) {
                for (int r = 0; r < MOST_BEST_ROWS; r++) {
                    put(leastRows, r, r < rows - rowsLeft ? at(rowsNow, r) : 0);
                }
                leastFound = true;
            }
            return 1;
        }

        private int startState() {
            int state = 0;
            for (int i = 0; i < places; i++) {
                state |= i << 3 * i;
            }
            return state;
        }

        private int openPlaces(int state) {
            int open = 0;
            for (int i = 1; i < places; i++) {
                if (part(state, i) > 0) {
                    open |= 1 << i;
                }
            }
            return open;
        }

        /** The PLACES that a CELL would not bring to 0 now. */
        private int unreadyPlaces(int state) {
            int unready = 0;
            for (int i = 1; i < places; i++) {
                int low = part(state, i);
                if (low > 0 && part(state, low - 1) > 0) {
                    unready |= 1 << i;
                }
            }
            return unready;
        }

        private boolean loadsFit(int state, int row) {
            int loads = 0;
            for (int i = 1; i < places; i++) {
                int low = part(state, i);
                if ((row >> i & 1) != 0 && low > 0) {
                    loads += 1 << 3 * (low - 1);
                    if (part(loads, low - 1) > mostLoad) {
                        return false;
                    }
                }
            }
            return true;
        }

        private int joined(int state, int row) {
            int next = state;
            for (int i = 1; i < places; i++) {
                int low = part(state, i);
                if ((row >> i & 1) != 0 && low > 0) {
                    next += part(state, low - 1) - low << 3 * i;
                }
            }
            return next;
        }

        /** The most SPANS that lie below a PLACE's own, one under another down to 0. */
        private int longestChain(int state) {
            int longest = 0;
            int chains = 0;
            for (int i = 1; i < places; i++) {
                int low = part(state, i);
                int chain = low == 0 ? 0 : 1 + part(chains, low - 1);
                chains |= chain << 3 * i;
                longest = Math.max(longest, chain);
            }
            return longest;
        }

        private static int part(int state, int i) {
            return state >> 3 * i & 7;
        }
    }

    /** BLOCKS told as figures to the base 16: their WORST, and the best of them for SKIP and CHOICE. */
    private static final class Blocks {
        private static final int WIDTH = MOST_PLACES + 1;
        private static final int ANY = 1000, NEVER = -1000;

        // SKIP, BLOCKS put from the highest down. Those above ask a way of the one below: the most of a size and
        // s for each BLOCK between. For each number of BLOCKS and PLACES: the greatest way that still can be met.
        private final int[] greatestWay = new int[(MOST_BLOCKS + 1) * WIDTH];
        private int skip;
        private int goal;

        static boolean areTold(long figures) {
            if (figures <= 0 || figures >> 4 * MOST_BLOCKS != 0) {
                return false;
            }
            int all = 0;
            for (int q = 0; q < MOST_BLOCKS && figures >> 4 * q != 0; q++) {
                if (size(figures, q) == 0) {
                    return false;
                }
                all += size(figures, q);
            }
            return all <= MOST_PLACES;
        }

        static int worst(long figures, int kind, int s) {
            return kind == 0 ? skipWorst(figures, s) : choiceWorst(figures);
        }

        private static int skipWorst(long figures, int s) {
            int worst = 0;
            // So far below 0 that BLOCK 0 is reached by no way but its own.
            int way = -s;
            for (int q = 0; q < MOST_BLOCKS && figures >> 4 * q != 0; q++) {
                int size = size(figures, q);
                worst = Math.max(worst, Math.max(size, way + size - 1));
                way = Math.max(way + s, size);
            }
            return worst;
        }

        private static int choiceWorst(long figures) {
            int carry = size(figures, 0);
            for (int q = 1; q < MOST_BLOCKS && figures >> 4 * q != 0; q++) {
                carry = 1 + Math.max(carry, size(figures, q));
            }
            return carry;
        }

        private static int size(long figures, int q) {
            return (int) (figures >> 4 * q) & 15;
        }

        long skipFigures(int n, int s) {
            skip = s;
            int least = 1;
            int most = n;
            // A greater WORST allows all that a lesser one does, and a WORST of n can always be kept.
            for (int halving = 0; halving < MOST_PLACES && least < most; halving++) {
                int middle = (least + most) / 2;
                if (fewestSkipBlocks(n, middle) > 0) {
                    most = middle;
                } else {
                    least = middle + 1;
                }
            }
            return leastSkipFigures(fewestSkipBlocks(n, least), n);
        }

        /** The fewest BLOCKS that keep to a WORST; 0: none do. */
        private int fewestSkipBlocks(int n, int worst) {
            goal = worst;
            allowNoBlocks(n);
            // BLOCKS of 1 PLACE each have this WORST already: more can not be put.
            for (int b = 1; b <= MOST_BLOCKS && 1 + skip * (b - 2) <= worst; b++) {
                allowBlocks(b, n);
                if (wayAllowed(b, n) >= -skip) {
                    return b;
                }
            }
            return 0;
        }

        private void allowNoBlocks(int n) {
            for (int left = 0; left <= n; left++) {
                put(greatestWay, left, left == 0 ? ANY : NEVER);
            }
        }

        private void allowBlocks(int b, int n) {
            for (int left = 0; left <= n; left++) {
                int greatest = NEVER;
                int most = greatestSize(left);
                for (int size = 1; size <= most; size++) {
                    int below = wayAllowed(b - 1, left - size);
                    if (size <= below) {
                        greatest = Math.max(greatest, Math.min(goal + 1 - size, below - skip));
                    }
                }
                put(greatestWay, b * WIDTH + left, greatest);
            }
        }

        private long leastSkipFigures(int blocks, int n) {
            long figures = 0;
            int left = n;
            int way = -skip;
            for (int b = blocks; b > 0; b--) {
                int size = leastSkipSize(b, left, way);
                figures = figures << 4 | size;
                left -= size;
                way = Math.max(way + skip, size);
            }
            return figures;
        }

        private int leastSkipSize(int b, int left, int way) {
            for (int size = 1; size <= greatestSize(left); size++) {
                boolean meets = size + way - 1 <= goal;
                if (meets && Math.max(way + skip, size) <= wayAllowed(b - 1, left - size)) {
                    return size;
                }
            }
            return 0;
        }

        private int greatestSize(int left) {
            return Math.min(left, Math.min(goal, MOST_SIZE));
        }

        private int wayAllowed(int b, int left) {
            return at(greatestWay, b * WIDTH + left);
        }

        static long choiceFigures(int n) {
            for (int worst = 1; worst <= n; worst++) {
                for (int b = 1; b <= MOST_BLOCKS && b <= worst; b++) {
                    if (b <= n && choicePlaces(b, b, worst) >= n) {
                        return leastChoiceFigures(b, n, worst);
                    }
                }
            }
            return BAD;
        }

        private static long leastChoiceFigures(int blocks, int n, int worst) {
            long figures = 0;
            int left = n;
            for (int q = blocks - 1; q >= 0; q--) {
                int size = Math.max(1, left - choicePlaces(q, blocks, worst));
                figures = figures << 4 | size;
                left -= size;
            }
            return figures;
        }

        /** The most PLACES that the lowest of so many BLOCKS can have, if the WORST is to be kept. */
        private static int choicePlaces(int lowest, int blocks, int worst) {
            int all = 0;
            for (int q = 0; q < lowest; q++) {
                int steps = q == 0 ? blocks - 1 : blocks - q;
                all += Math.min(MOST_SIZE, worst - steps);
            }
            return all;
        }
    }

    /** The COLUMNS of a HEAP, and what bringing them down took. */
    private static final class Columns {
        int threes;
        int twos;
        int lost;
        private final int[] heights = new int[COLUMNS];

        int heightOf(int column) {
            return at(heights, column);
        }

        void setHeight(int column, int h) {
            put(heights, column, h);
        }

        void clear() {
            for (int c = 0; c < heights.length; c++) {
                heights[c] = 0;
            }
        }

        void copy(Columns other) {
            for (int c = 0; c < heights.length; c++) {
                heights[c] = other.heightOf(c);
            }
        }

        void clearTallies() {
            threes = 0;
            twos = 0;
            lost = 0;
        }

        int greatest() {
            int greatest = 0;
            for (int h : heights) {
                greatest = Math.max(greatest, h);
            }
            return greatest;
        }

        int allBits() {
            int all = 0;
            for (int h : heights) {
                all += h;
            }
            return all;
        }

        int filled() {
            int some = 0;
            for (int h : heights) {
                some += h > 0 ? 1 : 0;
            }
            return some;
        }

        boolean done() {
            return greatest() <= 2;
        }

        void bringDown(int law) {
            if (law == 0) {
                bringDownAtOnce();
            } else {
                bringDownLate();
            }
        }

        private void bringDownAtOnce() {
            int in = 0;
            for (int c = 0; c < heights.length; c++) {
                int h = heights[c];
                int newThrees = h / 3;
                int newTwos = h > 2 && h % 3 == 2 ? 1 : 0;
                heights[c] = h - 2 * newThrees - newTwos + in;
                threes += newThrees;
                twos += newTwos;
                in = newThrees + newTwos;
            }
            lost += in;
        }

        private void bringDownLate() {
            int goal = goal();
            int in = 0;
            for (int c = 0; c < heights.length; c++) {
                int excess = Math.max(0, heights[c] + in - goal);
                heights[c] += in - excess;
                // A three takes 2 off the excess and a two the last 1; each sends one bit on.
                threes += excess / 2;
                twos += excess % 2;
                in = excess / 2 + excess % 2;
            }
            lost += in;
        }

        private int goal() {
            int greatest = greatest();
            int goal = 2;
            for (int next = 3; next < greatest; next += next / 2) {
                goal = next;
            }
            return goal;
        }
    }

    /** A SHEET: one row serves for all lanes, each CELL cut to its lane's bits as it is written. */
    private static final class Sheet {
        static final int NULL_FAULT = 1, INDEX_FAULT = 2, CAST_FAULT = 3, SIZE_FAULT = 4;

        int size;
        private int lane = NONE;
        private final int[] cells = new int[MOST_SHEET_CELLS];

        void renew(int newLane, int n) {
            lane = newLane;
            size = n;
            for (int i = 0; i < cells.length; i++) {
                cells[i] = 0;
            }
        }

        boolean isNothing() {
            return lane == NONE;
        }

        boolean hasCell(int i) {
            return i >= 0 && i < size;
        }

        int read(int i) {
            return at(cells, i);
        }

        void write(int i, int v) {
            put(cells, i, lane == 0 ? (byte) v : lane == 1 ? (short) v : v);
        }

        /** Why n HEIGHTS can not be read from CELL f on; 0: they can. */
        int refusal(int asLane, int f, int n) {
            if (isNothing()) {
                return FAULT_BASE - NULL_FAULT;
            }
            if (lane != asLane) {
                return FAULT_BASE - CAST_FAULT;
            }
            for (int i = 0; i < n; i++) {
                if (!hasCell(f + i)) {
                    return FAULT_BASE - INDEX_FAULT;
                }
                if (read(f + i) < 0 || read(f + i) > MOST_HEIGHT) {
                    return NO_HEIGHT_BASE - i;
                }
            }
            return 0;
        }
    }
}
