/**
 * Pictures of grey packed by blocks of 4 by 4 pixels, each foretold from its neighbours. The words used here
 * (back, forth, foretelling, smoothing, U, S, faults) are those of the document.
 */
public final class IntraMill {
    public static final int NONE = -1;

    private static final int SIDE = 4;
    private static final int MOST_EACH_WAY = 8;
    private static final int MOST_BLOCKS = 64;
    private static final int MOST_QP = 51;
    private static final int MODES = 9;
    private static final int MEAN = 2;
    private static final int CELLS = 16;
    private static final int MOST_BYTES = 8000;
    private static final int BYTES_FED = 4;
    private static final int MOST_SIZE = 2048;
    private static final int LONGEST = 15;

    private static final int FAULT_SHORT = 1;
    private static final int FAULT_HEAD = 2;
    private static final int FAULT_MODE = 3;
    private static final int FAULT_COUNT = 4;
    private static final int FAULT_ZEROS = 5;
    private static final int FAULT_SIZE = 6;
    private static final int FAULT_REST = 7;

    /** Where each coefficient, in the order of the bits, stands in a block that is held row by row. */
    private static final int[] ORDER = {0, 1, 4, 8, 5, 2, 3, 6, 9, 12, 13, 10, 7, 11, 14, 15};

    /** V and W: for each QP modulo 6 those of the cells with none, one and both of u and v odd. */
    private static final int[] BACK_FACTORS = {
        10, 13, 16, 11, 14, 18, 13, 16, 20, 14, 18, 23, 16, 20, 25, 18, 23, 29
    };
    private static final int[] FORTH_FACTORS = {
        13107, 8066, 5243, 11916, 7490, 4660, 10082, 6554, 4194,
        9362, 5825, 3647, 8192, 5243, 3355, 7282, 4559, 2893
    };

    private final Picture picture;
    private final Foretelling foretelling;
    private final BlockMill mill;
    private final Store store;
    private final PlanWriter writer;
    private final PlanReader reader;
    private Plan latest;
    /** What is being read: it becomes the latest only when all of it was without a fault. */
    private Plan trial;

    public IntraMill() {
        picture = new Picture();
        foretelling = new Foretelling(picture);
        mill = new BlockMill(picture, foretelling);
        store = new Store();
        writer = new PlanWriter(store);
        reader = new PlanReader(store);
        latest = new Plan();
        trial = new Plan();
        latest.clear(1, 1);
    }

    public void begin(int across, int down) throws IllegalArgumentException {
        if (!isWithin(across, 1, MOST_EACH_WAY) || !isWithin(down, 1, MOST_EACH_WAY)) {
            throw new IllegalArgumentException();
        }
        picture.clear(across, down);
        latest.clear(across, down);
    }

    public void put(int block, int y, int four) throws IllegalArgumentException {
        if (!isWithin(block, 0, picture.across - 1) || !isWithin(y, 0, SIDE * picture.down - 1)) {
            throw new IllegalArgumentException();
        }
        for (int k = 0; k < SIDE; k++) {
            picture.set(SIDE * block + k, y, byteOf(four, k));
        }
    }

    public int pixel(int x, int y) {
        if (!isWithin(x, 0, SIDE * picture.across - 1) || !isWithin(y, 0, SIDE * picture.down - 1)) {
            return NONE;
        }
        return picture.get(x, y);
    }

    public int pack(int qp, boolean smooth) throws IllegalArgumentException {
        if (!isWithin(qp, 0, MOST_QP)) {
            throw new IllegalArgumentException();
        }
        latest.qp = qp;
        latest.smooth = smooth;
        for (int block = 0; block < picture.blocks(); block++) {
            mill.packBlock(latest, block);
        }
        if (smooth) {
            picture.smoothEdges(qp);
        }
        writer.write(latest);
        return store.count;
    }

    public int unpack() {
        if (!reader.read(trial)) {
            return -reader.fault();
        }
        Plan before = latest;
        latest = trial;
        trial = before;
        picture.clear(latest.across, latest.down);
        for (int block = 0; block < picture.blocks(); block++) {
            mill.unpackBlock(latest, block);
        }
        if (latest.smooth) {
            picture.smoothEdges(latest.qp);
        }
        return 0;
    }

    public int place() {
        return reader.faultPlace();
    }

    public int feed(int four) throws IllegalStateException {
        if (store.count + BYTES_FED > MOST_BYTES) {
            throw new IllegalStateException();
        }
        for (int k = 0; k < BYTES_FED; k++) {
            store.add(byteOf(four, k));
        }
        return store.count;
    }

    public void end(int n) throws IllegalArgumentException {
        if (!isWithin(n, 0, store.count)) {
            throw new IllegalArgumentException();
        }
        store.count = n;
    }

    public int alter(int i, int b) throws IllegalArgumentException {
        if (!isWithin(i, 0, store.count - 1)) {
            throw new IllegalArgumentException();
        }
        int before = store.get(i);
        store.set(i, b);
        return before;
    }

    public int bits(int i) {
        return isWithin(i, 0, store.count - 1) ? store.get(i) : NONE;
    }

    public int block(int block, int what) throws IllegalArgumentException {
        if (!isWithin(block, 0, latest.blocks() - 1) || !isWithin(what, NONE, CELLS - 1)) {
            throw new IllegalArgumentException();
        }
        return what == NONE ? latest.modes[block] : latest.levels[CELLS * block + what];
    }

    public int foretold(int block, int mode, int x, int y) throws IllegalArgumentException {
        if (!isWithin(block, 0, picture.blocks() - 1) || !isWithin(mode, 0, MODES - 1)
                || !isWithin(x, 0, SIDE - 1) || !isWithin(y, 0, SIDE - 1)) {
            throw new IllegalArgumentException();
        }
        foretelling.lookAround(block);
        return foretelling.mayUse(mode) ? foretelling.guess(mode, x, y) : NONE;
    }

    public int about(int what) throws IllegalArgumentException {
        switch (what) {
            case 0:
                return picture.across;
            case 1:
                return picture.down;
            case 2:
                return latest.qp;
            case 3:
                return latest.smooth ? 1 : 0;
            case 4:
                return store.count;
            default:
                throw new IllegalArgumentException();
        }
    }

    private static boolean isWithin(int value, int least, int most) {
        return value >= least && value <= most;
    }

    /** Whether a mode has what it needs, a block above and one on the left being there or not. */
    private static boolean hasNeeded(int mode, boolean above, boolean left) {
        switch (mode) {
            case 0:
            case 3:
            case 7:
                return above;
            case 1:
            case 8:
                return left;
            case MEAN:
                return true;
            default:
                return above && left;
        }
    }

    /** Byte k, from the highest. */
    private static int byteOf(int four, int k) {
        return (four >>> (24 - 8 * k)) & 255;
    }

    private static int bring(int value, int least, int most) {
        return value < least ? least : value > most ? most : value;
    }

    /** The pixels. Lines have one length whatever the picture's size, so that the row is made only once. */
    private static final class Picture {
        private static final int LINE = 32;

        private final int[] pixels = new int[LINE * LINE];
        private int across = 1;
        private int down = 1;

        void clear(int newAcross, int newDown) {
            across = newAcross;
            down = newDown;
            for (int i = 0; i < pixels.length; i++) {
                pixels[i] = 0;
            }
        }

        int blocks() {
            return across * down;
        }

        int leftOf(int block) {
            return SIDE * (block % across);
        }

        int topOf(int block) {
            return SIDE * (block / across);
        }

        int get(int x, int y) {
            return pixels[LINE * y + x];
        }

        void set(int x, int y, int value) {
            pixels[LINE * y + x] = value;
        }

        void smoothEdges(int qp) {
            for (int x = SIDE; x < SIDE * across; x += SIDE) {
                for (int y = 0; y < SIDE * down; y++) {
                    smoothAcross(LINE * y + x, 1, qp);
                }
            }
            for (int y = SIDE; y < SIDE * down; y += SIDE) {
                for (int x = 0; x < SIDE * across; x++) {
                    smoothAcross(LINE * y + x, LINE, qp);
                }
            }
        }

        /** The edge lies before the pixel at this index; step leads over it. */
        private void smoothAcross(int at, int step, int qp) {
            int o = pixels[at - 2 * step];
            int p = pixels[at - step];
            int q = pixels[at];
            int r = pixels[at + step];
            int flat = qp / 4 + 1;
            if (Math.abs(p - q) >= qp * qp / 24 || Math.abs(p - o) >= flat || Math.abs(r - q) >= flat) {
                return;
            }
            int most = qp / 8 + 1;
            int d = bring((4 * (q - p) + o - r + 4) >> 3, -most, most);
            pixels[at - step] = bring(p + d, 0, 255);
            pixels[at] = bring(q - d, 0, 255);
        }
    }

    /** How a picture is packed: its size and QP, and the mode and the coefficients of each block. */
    private static final class Plan {
        private final int[] modes = new int[MOST_BLOCKS];
        private final int[] levels = new int[CELLS * MOST_BLOCKS];
        private int across = 1;
        private int down = 1;
        private int qp;
        private boolean smooth;

        void clear(int newAcross, int newDown) {
            across = newAcross;
            down = newDown;
            qp = 0;
            smooth = false;
            for (int block = 0; block < modes.length; block++) {
                modes[block] = NONE;
            }
            for (int i = 0; i < levels.length; i++) {
                levels[i] = 0;
            }
        }

        int blocks() {
            return across * down;
        }

        boolean hasAbove(int block) {
            return block >= across;
        }

        boolean hasLeft(int block) {
            return block % across > 0;
        }

        int likelyMode(int block) {
            if (!hasAbove(block) || !hasLeft(block)) {
                return MEAN;
            }
            return Math.min(modes[block - across], modes[block - 1]);
        }
    }

    /** What the pixels round a block foretell of it. */
    private static final class Foretelling {
        /** Where P(0) stands in the line, which goes from P(-7) to P(9). */
        private static final int CORNER = 7;
        private static final int LAST_ABOVE = 9;
        private static final int LAST_LEFT = 7;

        private final Picture picture;
        /**
         * The P(k). Behind the last pixel that is there its value goes on, as far as any mode looks, so that no
         * mode needs to ask where the pixels end.
         */
        private final int[] line = new int[CORNER + LAST_ABOVE + 1];
        private boolean above;
        private boolean left;
        private int mean;

        Foretelling(Picture picture) {
            this.picture = picture;
        }

        void lookAround(int block) {
            int x = picture.leftOf(block);
            int y = picture.topOf(block);
            above = y > 0;
            left = x > 0;
            if (above) {
                lookAbove(x, y - 1);
            }
            if (left) {
                lookLeft(x - 1, y);
            }
            if (above && left) {
                line[CORNER] = picture.get(x - 1, y - 1);
            }
            mean = meanOfSides();
        }

        private void lookAbove(int x, int y) {
            int there = x + SIDE < SIDE * picture.across ? 2 * SIDE : SIDE;
            for (int k = 0; k < LAST_ABOVE; k++) {
                line[CORNER + 1 + k] = k < there ? picture.get(x + k, y) : line[CORNER + k];
            }
        }

        private void lookLeft(int x, int y) {
            for (int k = 0; k < LAST_LEFT; k++) {
                line[CORNER - 1 - k] = k < SIDE ? picture.get(x, y + k) : line[CORNER - k];
            }
        }

        private int meanOfSides() {
            if (above && left) {
                return (sumOfSide(1) + sumOfSide(-1) + 4) / 8;
            }
            if (above || left) {
                return (sumOfSide(above ? 1 : -1) + 2) / 4;
            }
            return 128;
        }

        private int sumOfSide(int way) {
            int sum = 0;
            for (int k = 1; k <= SIDE; k++) {
                sum += line[CORNER + way * k];
            }
            return sum;
        }

        boolean mayUse(int mode) {
            return hasNeeded(mode, above, left);
        }

        int guess(int mode, int x, int y) {
            switch (mode) {
                case 0:
                    return line[CORNER + 1 + x];
                case 1:
                    return line[CORNER - 1 - y];
                case MEAN:
                    return mean;
                case 3:
                    return three(x + y + 2);
                case 4:
                    return three(x - y);
                case 5:
                    return steep(x, y, 1);
                case 6:
                    return steep(y, x, -1);
                case 7:
                    return leaning(x, y, 1);
                default:
                    return leaning(y, x, -1);
            }
        }

        /** Mode 5, and mode 6 as its mirror: way is the sign before each k of P(k). */
        private int steep(int x, int y, int way) {
            int z = 2 * x - y;
            int n = x - y / 2;
            if (z < -1) {
                return three(way * (1 - y));
            }
            // For z = -1 n is 0, so that three() is the one round the corner which the document names.
            return z % 2 == 0 ? two(way * n, way * (n + 1)) : three(way * n);
        }

        /** Mode 7, and mode 8 as its mirror. */
        private int leaning(int x, int y, int way) {
            int n = x + y / 2;
            return y % 2 == 0 ? two(way * (n + 1), way * (n + 2)) : three(way * (n + 2));
        }

        private int two(int k, int m) {
            return (line[CORNER + k] + line[CORNER + m] + 1) / 2;
        }

        /** three() of P(k) in the middle and the two beside it. */
        private int three(int k) {
            int middle = CORNER + k;
            return (line[middle - 1] + 2 * line[middle] + line[middle + 1] + 2) / 4;
        }
    }

    /** The whole transforms of one block, both ways. */
    private static final class Transform {
        /** The block, row by row: before forth() and behind back() what its pixels have beyond the foretold. */
        private final int[] cells = new int[CELLS];

        void back(int[] levels, int from, int qp) {
            for (int i = 0; i < CELLS; i++) {
                int cell = ORDER[i];
                cells[cell] = (levels[from + i] * BACK_FACTORS[factorOf(cell, qp)]) << (qp / 6);
            }
            for (int k = 0; k < SIDE; k++) {
                backLine(SIDE * k, 1);
            }
            for (int k = 0; k < SIDE; k++) {
                backLine(k, SIDE);
            }
            for (int i = 0; i < CELLS; i++) {
                cells[i] = (cells[i] + 32) >> 6;
            }
        }

        private void backLine(int first, int step) {
            int a = cells[first];
            int b = cells[first + step];
            int c = cells[first + 2 * step];
            int d = cells[first + 3 * step];
            int p = a + c;
            int q = a - c;
            int r = (b >> 1) - d;
            int s = b + (d >> 1);
            cells[first] = p + s;
            cells[first + step] = q + r;
            cells[first + 2 * step] = q - r;
            cells[first + 3 * step] = p - s;
        }

        void forth(int[] levels, int from, int qp) {
            for (int k = 0; k < SIDE; k++) {
                forthLine(SIDE * k, 1);
            }
            for (int k = 0; k < SIDE; k++) {
                forthLine(k, SIDE);
            }
            int shift = 15 + qp / 6;
            int third = (1 << shift) / 3;
            for (int i = 0; i < CELLS; i++) {
                int cell = ORDER[i];
                int value = cells[cell];
                int size = (Math.abs(value) * FORTH_FACTORS[factorOf(cell, qp)] + third) >> shift;
                levels[from + i] = value < 0 ? -size : size;
            }
        }

        private void forthLine(int first, int step) {
            int a = cells[first];
            int b = cells[first + step];
            int c = cells[first + 2 * step];
            int d = cells[first + 3 * step];
            int p = a + d;
            int q = b + c;
            int r = b - c;
            int s = a - d;
            cells[first] = p + q;
            cells[first + step] = 2 * s + r;
            cells[first + 2 * step] = p - q;
            cells[first + 3 * step] = s - 2 * r;
        }

        private static int factorOf(int cell, int qp) {
            int odd = cell % 2 + cell / SIDE % 2;
            return 3 * (qp % 6) + odd;
        }
    }

    /** Packs and unpacks one block in its place in the picture, where the blocks before it have come back. */
    private static final class BlockMill {
        private final Picture picture;
        private final Foretelling foretelling;
        private final Transform transform;
        /** What is foretold for the block, row by row. */
        private final int[] told = new int[CELLS];

        BlockMill(Picture picture, Foretelling foretelling) {
            this.picture = picture;
            this.foretelling = foretelling;
            transform = new Transform();
        }

        void packBlock(Plan plan, int block) {
            int left = picture.leftOf(block);
            int top = picture.topOf(block);
            foretelling.lookAround(block);
            int mode = bestMode(left, top);
            foretell(mode);
            for (int i = 0; i < CELLS; i++) {
                transform.cells[i] = lessTold(left, top, i);
            }
            plan.modes[block] = mode;
            transform.forth(plan.levels, CELLS * block, plan.qp);
            comeBack(plan, block);
        }

        void unpackBlock(Plan plan, int block) {
            foretelling.lookAround(block);
            foretell(plan.modes[block]);
            comeBack(plan, block);
        }

        private int bestMode(int left, int top) {
            int best = MEAN;
            int least = Integer.MAX_VALUE;
            for (int mode = 0; mode < MODES; mode++) {
                if (foretelling.mayUse(mode)) {
                    foretell(mode);
                    int sum = sumOfSizes(left, top);
                    if (sum < least) {
                        least = sum;
                        best = mode;
                    }
                }
            }
            return best;
        }

        private void foretell(int mode) {
            for (int i = 0; i < CELLS; i++) {
                told[i] = foretelling.guess(mode, i % SIDE, i / SIDE);
            }
        }

        private int sumOfSizes(int left, int top) {
            int sum = 0;
            for (int i = 0; i < CELLS; i++) {
                sum += Math.abs(lessTold(left, top, i));
            }
            return sum;
        }

        private int lessTold(int left, int top, int i) {
            return picture.get(left + i % SIDE, top + i / SIDE) - told[i];
        }

        private void comeBack(Plan plan, int block) {
            int left = picture.leftOf(block);
            int top = picture.topOf(block);
            transform.back(plan.levels, CELLS * block, plan.qp);
            for (int i = 0; i < CELLS; i++) {
                int value = bring(told[i] + transform.cells[i], 0, 255);
                picture.set(left + i % SIDE, top + i / SIDE, value);
            }
        }
    }

    /** The bytes of the bits. */
    private static final class Store {
        private final byte[] bytes = new byte[MOST_BYTES];
        private int count;

        int get(int i) {
            return bytes[i] & 255;
        }

        void set(int i, int value) {
            bytes[i] = (byte) value;
        }

        void add(int value) {
            if (count < MOST_BYTES) {
                set(count, value);
                count++;
            }
        }

        int bitAt(int i) {
            return (bytes[i / 8] >> (7 - i % 8)) & 1;
        }
    }

    /** Writes a plan as bits. */
    private static final class PlanWriter {
        private final Store store;
        private int open;
        private int openBits;

        PlanWriter(Store store) {
            this.store = store;
        }

        void write(Plan plan) {
            store.count = 0;
            open = 0;
            openBits = 0;
            writeNumber(plan.across - 1);
            writeNumber(plan.down - 1);
            writeNumber(plan.qp);
            writeBits(plan.smooth ? 1 : 0, 1);
            for (int block = 0; block < plan.blocks(); block++) {
                writeMode(plan.modes[block], plan.likelyMode(block));
                writeLevels(plan.levels, CELLS * block);
            }
            if (openBits > 0) {
                writeBits(0, 8 - openBits);
            }
        }

        private void writeMode(int mode, int likely) {
            if (mode == likely) {
                writeBits(1, 1);
            } else {
                writeBits(0, 1);
                writeBits(mode > likely ? mode - 1 : mode, 3);
            }
        }

        private void writeLevels(int[] levels, int from) {
            int count = 0;
            for (int i = 0; i < CELLS; i++) {
                if (levels[from + i] != 0) {
                    count++;
                }
            }
            writeNumber(count);
            int zeros = 0;
            for (int i = 0; i < CELLS; i++) {
                int level = levels[from + i];
                if (level == 0) {
                    zeros++;
                } else {
                    writeNumber(zeros);
                    writeNumber(level > 0 ? 2 * level - 1 : -2 * level);
                    zeros = 0;
                }
            }
        }

        /** U: as many zeros as the number and 1 has binary digits behind its first, then all of these. */
        private void writeNumber(int number) {
            int zeros = 0;
            while (zeros < LONGEST && (number + 1) >> (zeros + 1) != 0) {
                zeros++;
            }
            writeBits(0, zeros);
            writeBits(number + 1, zeros + 1);
        }

        private void writeBits(int value, int n) {
            for (int k = n - 1; k >= 0; k--) {
                open = 2 * open + ((value >> k) & 1);
                openBits++;
                if (openBits == 8) {
                    store.add(open);
                    open = 0;
                    openBits = 0;
                }
            }
        }
    }

    /** Reads bits strictly: the first fault ends the reading, and is kept with its place. */
    private static final class BitReader {
        private final Store store;
        private int next;
        private int fault;
        private int faultPlace = NONE;

        BitReader(Store store) {
            this.store = store;
        }

        void restart() {
            next = 0;
            fault = 0;
            faultPlace = NONE;
        }

        void fail(int kind, int from) {
            fault = kind;
            faultPlace = from;
        }

        int left() {
            return 8 * store.count - next;
        }

        /** The next n bits, NONE if they are not all there. */
        int readBits(int n) {
            if (left() < n) {
                fail(FAULT_SHORT, next);
                return NONE;
            }
            int value = 0;
            for (int k = 0; k < n; k++) {
                value = 2 * value + store.bitAt(next + k);
            }
            next += n;
            return value;
        }

        /** A U; NONE if it is none, or above the most that it may be, which is a fault of this kind. */
        int readNumber(int most, int kind) {
            int from = next;
            int zeros = countZeros();
            if (zeros > LONGEST || left() < 2 * zeros + 1) {
                fail(FAULT_SHORT, from);
                return NONE;
            }
            next += zeros;
            int number = readBits(zeros + 1) - 1;
            if (number > most) {
                fail(kind, from);
                return NONE;
            }
            return number;
        }

        private int countZeros() {
            int zeros = 0;
            while (zeros <= LONGEST && zeros < left() && store.bitAt(next + zeros) == 0) {
                zeros++;
            }
            return zeros;
        }

        /** An S; 0, which may not stand there, if it is none or its size is too great. */
        int readLevel() {
            int from = next;
            int number = readNumber(Integer.MAX_VALUE, FAULT_SIZE);
            if (number == NONE) {
                return 0;
            }
            int size = (number + 1) / 2;
            if (size == 0 || size > MOST_SIZE) {
                fail(FAULT_SIZE, from);
                return 0;
            }
            return number % 2 == 1 ? size : -size;
        }

        boolean endsClean() {
            boolean clean = left() < 8;
            for (int k = 0; clean && k < left(); k++) {
                clean = store.bitAt(next + k) == 0;
            }
            if (!clean) {
                fail(FAULT_REST, next);
            }
            return clean;
        }
    }

    /** Reads a plan from the bits: each part answers whether it was without a fault. */
    private static final class PlanReader {
        private final BitReader bits;

        PlanReader(Store store) {
            bits = new BitReader(store);
        }

        int fault() {
            return bits.fault;
        }

        int faultPlace() {
            return bits.faultPlace;
        }

        boolean read(Plan plan) {
            bits.restart();
            if (!readHead(plan)) {
                return false;
            }
            for (int block = 0; block < plan.blocks(); block++) {
                if (!readMode(plan, block) || !readLevels(plan, block)) {
                    return false;
                }
            }
            return bits.endsClean();
        }

        private boolean readHead(Plan plan) {
            int across = bits.readNumber(MOST_EACH_WAY - 1, FAULT_HEAD);
            if (across == NONE) {
                return false;
            }
            int down = bits.readNumber(MOST_EACH_WAY - 1, FAULT_HEAD);
            if (down == NONE) {
                return false;
            }
            int qp = bits.readNumber(MOST_QP, FAULT_HEAD);
            if (qp == NONE) {
                return false;
            }
            int smooth = bits.readBits(1);
            if (smooth == NONE) {
                return false;
            }
            plan.clear(across + 1, down + 1);
            plan.qp = qp;
            plan.smooth = smooth == 1;
            return true;
        }

        private boolean readMode(Plan plan, int block) {
            int likely = plan.likelyMode(block);
            int isLikely = bits.readBits(1);
            if (isLikely == NONE) {
                return false;
            }
            if (isLikely == 1) {
                plan.modes[block] = likely;
                return true;
            }
            int from = bits.next;
            int three = bits.readBits(3);
            if (three == NONE) {
                return false;
            }
            int mode = three < likely ? three : three + 1;
            if (!hasNeeded(mode, plan.hasAbove(block), plan.hasLeft(block))) {
                bits.fail(FAULT_MODE, from);
                return false;
            }
            plan.modes[block] = mode;
            return true;
        }

        private boolean readLevels(Plan plan, int block) {
            int count = bits.readNumber(CELLS, FAULT_COUNT);
            int next = 0;
            for (int k = 0; k < count; k++) {
                int zeros = bits.readNumber(CELLS - 1 - next, FAULT_ZEROS);
                if (zeros == NONE) {
                    return false;
                }
                int level = bits.readLevel();
                if (level == 0) {
                    return false;
                }
                next += zeros;
                plan.levels[CELLS * block + next] = level;
                next++;
            }
            return count != NONE;
        }
    }
}
