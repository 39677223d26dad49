import java.util.Arrays;

/** A smith of check sums of rows of bytes; the document's numbered promises say what each call answers. */
public final class SumSmith {
    public static final int NONE = -1, UNKNOWN = -2, OUTSIDE = -3, KIND = -4, NOT = -5, FULL = -6;

    private static final int PLAIN = 0, TWOFOLD = 1, WEIGHTED = 2, TURNING = 3, DIVIDED = 4, MENDING = 5, SQUARE = 6;
    private static final int KINDS = 7;

    private static final int FLIP = 0, BURST = 1, BYTE = 2, APART = 4, TWIN = 5;

    private static final int MOST_SUMS = 16, MOST_TOLD = 100, MOST_BYTES = 64, MOST_FAR_BYTES = 1000;
    private static final int MOST_MODULUS = 65536, MOST_WEIGHTS = 12;
    private static final int MOST_SLIP_BYTES = 8, MOST_FLIPS = 3, MOST_BURST = 8;
    private static final int MOST_WEIGHT = 4, MOST_WEIGHT_BYTES = 6, MOST_PERIOD = 65535;
    private static final int MOST_PAIRS = 8 * MOST_WEIGHT_BYTES * (8 * MOST_WEIGHT_BYTES - 1) / 2;
    private static final int MOST_AIMED = 16, MOST_WAYS = 64;
    private static final int WRONG_BIT_OF_SUM = 1000;

    private static final int[] WEIGHT_ONE = {1};

    private final Sum[] sums = new Sum[MOST_SUMS];
    private int sumCount = 0;
    private final int[] told = new int[MOST_TOLD];
    private int toldCount = 0;
    private final int[] row = new int[MOST_BYTES];
    private int rowLength = 0;
    private final int[] asked = new int[KINDS];
    private final Slips slips = new Slips();
    private final PlaceSets sets = new PlaceSets();
    private final int[] lightestPlaces = new int[MOST_WEIGHT];
    private int lightestCount = 0;
    private final Aims aims = new Aims();

    public SumSmith() {
    }

    // ---- sums

    public int tell(int v) {
        if (!within(v, 0, 65535)) {
            return OUTSIDE;
        }
        if (toldCount >= MOST_TOLD) {
            return FULL;
        }
        told[toldCount] = v;
        toldCount++;
        return toldCount;
    }

    public int untell() {
        int had = toldCount;
        toldCount = 0;
        return had;
    }

    public int plain(int m) {
        if (!isModulus(m)) {
            return OUTSIDE;
        }
        return isFull() ? FULL : keepSum(new Weighted(PLAIN, m, WEIGHT_ONE));
    }

    public int twofold(int m) {
        if (!isModulus(m)) {
            return OUTSIDE;
        }
        return isFull() ? FULL : keepSum(new Twofold(m));
    }

    public int weighted(int m) {
        if (!isModulus(m)) {
            return OUTSIDE;
        }
        if (!within(toldCount, 1, MOST_WEIGHTS)) {
            return NOT;
        }
        if (isFull()) {
            return FULL;
        }
        int[] weights = Arrays.copyOf(told, toldCount);
        toldCount = 0;
        return keepSum(new Weighted(WEIGHTED, m, weights));
    }

    public int turning(int n, int t) {
        if (!within(n, 8, 32) || !within(t, 0, n - 1)) {
            return OUTSIDE;
        }
        return isFull() ? FULL : keepSum(new Turning(n, t));
    }

    public int divided(int n, long p, long begin, long finish, boolean low, boolean mends) {
        if (!within(n, 3, 32) || !fits(p, n) || !fits(begin, n) || !fits(finish, n)) {
            return OUTSIDE;
        }
        return isFull() ? FULL : keepSum(new Divided(mends ? MENDING : DIVIDED, n, p, begin, finish, low));
    }

    public int square(int q) {
        if (!within(q, 2, 10)) {
            return OUTSIDE;
        }
        if (!toldIsSquare(q)) {
            return NOT;
        }
        if (isFull()) {
            return FULL;
        }
        int[] cells = Arrays.copyOf(told, toldCount);
        toldCount = 0;
        return keepSum(new Square(q, cells));
    }

    public int kind(int k) {
        Sum sum = sumAt(k);
        return sum == null ? UNKNOWN : sum.kind;
    }

    // ---- the row

    public int put(int b) {
        if (!isByte(b)) {
            return OUTSIDE;
        }
        if (rowLength >= MOST_BYTES) {
            return FULL;
        }
        row[rowLength] = b;
        rowLength++;
        return rowLength;
    }

    public int set(int i, int b) {
        if (!within(i, 0, rowLength - 1)) {
            return UNKNOWN;
        }
        if (!isByte(b)) {
            return OUTSIDE;
        }
        int was = row[i];
        row[i] = b;
        return was;
    }

    public int at(int i) {
        return within(i, 0, rowLength - 1) ? row[i] : UNKNOWN;
    }

    public int cut(int n) {
        if (!within(n, 0, rowLength)) {
            return OUTSIDE;
        }
        int gone = rowLength - n;
        rowLength = n;
        return gone;
    }

    public long sum(int k) {
        Sum sum = sumAt(k);
        if (sum == null) {
            return UNKNOWN;
        }
        asked[sum.kind]++;
        if (sum.kind == MENDING) {
            asked[DIVIDED]++;
        }
        return sum.ofRow(row, rowLength);
    }

    // ---- from sums alone

    public long joined(int k, long s, int n, long u, int o) {
        Sum sum = sumAt(k);
        if (sum == null) {
            return UNKNOWN;
        }
        if (!(sum instanceof Linear linear)) {
            return KIND;
        }
        if (!linear.holds(s) || !linear.holds(u) || !within(n, 0, MOST_FAR_BYTES) || !within(o, 0, MOST_FAR_BYTES)) {
            return OUTSIDE;
        }
        return linear.canJoinBehind(n) ? linear.merged(u, linear.carried(s, o)) : NOT;
    }

    public long other(int k, long s, int n, int i, int a, int b) {
        Sum sum = sumAt(k);
        if (sum == null) {
            return UNKNOWN;
        }
        if (!(sum instanceof Linear linear)) {
            return KIND;
        }
        if (!linear.holds(s) || !within(n, 1, MOST_FAR_BYTES) || !within(i, 0, n - 1) || !isByte(a) || !isByte(b)) {
            return OUTSIDE;
        }
        return linear.merged(s, linear.changed(n, i, a, b));
    }

    public long less(int k, long s, int n, int a) {
        Sum sum = sumAt(k);
        if (sum == null) {
            return UNKNOWN;
        }
        if (!(sum instanceof Linear linear)) {
            return KIND;
        }
        if (!linear.holds(s) || !within(n, 1, MOST_FAR_BYTES) || !isByte(a)) {
            return OUTSIDE;
        }
        if (!linear.canDropFirst()) {
            return NOT;
        }
        return linear.withoutLeadingZero(linear.merged(s, linear.changed(n, 0, a, 0)), n);
    }

    // ---- slips

    public int sees(int k, int slip, int bits, int n) {
        Sum sum = sumAt(k);
        if (sum == null) {
            return UNKNOWN;
        }
        if (!(sum instanceof Linear linear)) {
            return KIND;
        }
        if (!isSlip(slip, bits) || !within(n, 1, MOST_SLIP_BYTES)) {
            return OUTSIDE;
        }
        return slips.findFirst(linear, slip, bits, n) ? 0 : 1;
    }

    public int passes(int i, boolean after) {
        if (!within(i, 0, slips.keptBytes - 1)) {
            return UNKNOWN;
        }
        return after ? slips.after[i] : slips.before[i];
    }

    public int signs(int k, int what) {
        Sum sum = sumAt(k);
        if (sum == null) {
            return UNKNOWN;
        }
        if (!(sum instanceof Square square)) {
            return KIND;
        }
        switch (what) {
            case 0:
                return square.seesSingles() ? 1 : 0;
            case 1:
                return square.seesSwaps() ? 1 : 0;
            case 2:
                return square.seesTwins() ? 1 : 0;
            default:
                return OUTSIDE;
        }
    }

    // ---- divided ones

    public long syndrome(int k, int place, int n) {
        Sum sum = sumAt(k);
        if (sum == null) {
            return UNKNOWN;
        }
        if (!(sum instanceof Divided divided)) {
            return KIND;
        }
        if (!within(n, 1, MOST_BYTES) || !within(place, 0, 8 * n - 1)) {
            return OUTSIDE;
        }
        int bit = bitOfPlace(place);
        return divided.changed(n, byteOfPlace(place), 0, bit);
    }

    public int weight(int k, int n) {
        Sum sum = sumAt(k);
        if (sum == null) {
            return UNKNOWN;
        }
        if (!(sum instanceof Divided divided)) {
            return KIND;
        }
        if (!within(n, 1, MOST_WEIGHT_BYTES)) {
            return OUTSIDE;
        }
        sets.load(n, divided.width, divided.polynomial, divided.low);
        int weight = sets.leastSize();
        if (weight > MOST_WEIGHT) {
            return NONE;
        }
        sets.findFirst(weight, lightestPlaces);
        lightestCount = weight;
        return weight;
    }

    public int lightest(int i) {
        if (!within(i, 0, MOST_WEIGHT - 1)) {
            return OUTSIDE;
        }
        return i < lightestCount ? lightestPlaces[i] : NONE;
    }

    public int count(int k, int bits, int n) {
        Sum sum = sumAt(k);
        if (sum == null) {
            return UNKNOWN;
        }
        if (!(sum instanceof Divided divided)) {
            return KIND;
        }
        if (!within(bits, 1, MOST_WEIGHT) || !within(n, 1, MOST_WEIGHT_BYTES)) {
            return OUTSIDE;
        }
        sets.load(n, divided.width, divided.polynomial, divided.low);
        return sets.howMany(bits);
    }

    public int period(int k) {
        Sum sum = sumAt(k);
        if (sum == null) {
            return UNKNOWN;
        }
        return sum instanceof Divided divided ? divided.findPeriod() : KIND;
    }

    public int free(int place) {
        if (!within(place, 0, 8 * rowLength - 1) || aims.isTold(place)) {
            return OUTSIDE;
        }
        return aims.isFull() ? FULL : aims.addPlace(place);
    }

    public int bind() {
        int had = aims.placeCount;
        aims.placeCount = 0;
        return had;
    }

    public int aim(int k, long s) {
        Sum sum = sumAt(k);
        if (sum == null) {
            return UNKNOWN;
        }
        if (!(sum instanceof Divided divided)) {
            return KIND;
        }
        if (!divided.holds(s)) {
            return OUTSIDE;
        }
        sets.load(rowLength, divided.width, divided.polynomial, divided.low);
        return aims.findWays(sets.syndromes, sets.places, divided.ofRow(row, rowLength) ^ s);
    }

    public int way(int i) {
        return within(i, 0, aims.wayCount - 1) ? aims.ways[i] : NONE;
    }

    public int best(int n, int k) {
        return within(n, 3, 8) && within(k, 1, 3) ? sets.findBest(n, k) : OUTSIDE;
    }

    public int mend(int k, long s) {
        Sum sum = sumAt(k);
        if (sum == null) {
            return UNKNOWN;
        }
        if (!(sum instanceof Divided divided) || sum.kind != MENDING) {
            return KIND;
        }
        if (!divided.holds(s)) {
            return OUTSIDE;
        }
        long wrong = divided.ofRow(row, rowLength) ^ s;
        if (wrong == 0) {
            return 0;
        }
        sets.load(rowLength, divided.width, divided.polynomial, divided.low);
        int place = sets.firstPlaceOf(wrong);
        if (place != NONE) {
            row[byteOfPlace(place)] ^= bitOfPlace(place);
            return 1 + place;
        }
        return Long.bitCount(wrong) == 1 ? WRONG_BIT_OF_SUM + Long.numberOfTrailingZeros(wrong) : NONE;
    }

    public int reach(int k) {
        Sum sum = sumAt(k);
        if (sum == null) {
            return UNKNOWN;
        }
        if (!(sum instanceof Divided divided) || sum.kind != MENDING) {
            return KIND;
        }
        return sets.findReach(divided.width, divided.polynomial);
    }

    public int trace(int kind) {
        return within(kind, 0, KINDS - 1) ? asked[kind] : OUTSIDE;
    }

    public int about(int what) {
        switch (what) {
            case 0:
                return sumCount;
            case 1:
                return rowLength;
            case 2:
                return toldCount;
            case 3:
                return aims.placeCount;
            case 4:
                return slips.keptBytes;
            default:
                return OUTSIDE;
        }
    }

    // ---- what the calls share

    private Sum sumAt(int k) {
        return within(k, 0, sumCount - 1) ? sums[k] : null;
    }

    private boolean isFull() {
        return sumCount >= MOST_SUMS;
    }

    /** Only behind isFull(). */
    private int keepSum(Sum made) {
        int number = sumCount;
        sums[number] = made;
        sumCount++;
        return number;
    }

    private boolean toldIsSquare(int q) {
        if (toldCount != q * q) {
            return false;
        }
        for (int i = 0; i < toldCount; i++) {
            if (told[i] >= q) {
                return false;
            }
        }
        return true;
    }

    private static boolean within(int v, int least, int most) {
        return v >= least && v <= most;
    }

    private static boolean isModulus(int m) {
        return within(m, 2, MOST_MODULUS);
    }

    private static boolean isByte(int b) {
        return within(b, 0, 255);
    }

    private static boolean isSlip(int slip, int bits) {
        if (slip == FLIP) {
            return within(bits, 1, MOST_FLIPS);
        }
        if (slip == BURST) {
            return within(bits, 1, MOST_BURST);
        }
        return within(slip, BYTE, TWIN);
    }

    /** Whether s is a number of so many bits (32 at most). */
    private static boolean fits(long s, int width) {
        return s >= 0 && s <= maskOf(width);
    }

    private static long maskOf(int width) {
        return (1L << width) - 1;
    }

    private static int byteOfPlace(int place) {
        return place >> 3;
    }

    private static int bitOfPlace(int place) {
        return 128 >> (place & 7);
    }

    // ---- the makes of SUMS

    private abstract static class Sum {
        final int kind;

        Sum(int kind) {
            this.kind = kind;
        }

        /** THE SUM, or NOT. */
        abstract long ofRow(int[] bytes, int length);
    }

    /**
     * A SUM to which each byte gives its own share, whatever the others are: so a change of some bytes changes
     * it by the same amount in all rows. Amounts are written as SUMS are; 0 is no change.
     */
    private abstract static class Linear extends Sum {
        Linear(int kind) {
            super(kind);
        }

        /** Whether s is within the bounds of such a SUM. */
        abstract boolean holds(long s);

        abstract long merged(long x, long y);

        /** By what THE SUM of n bytes changes where byte i is no more a, but b. */
        abstract long changed(int n, int i, int a, int b);

        /** What the first row's SUM s gives to that of both, the second one having so many bytes. */
        abstract long carried(long s, int bytes);

        /** Whether amounts are merged by exclusive or: what a bit was before is then all the same. */
        boolean isByExclusiveOr() {
            return false;
        }

        boolean canJoinBehind(int n) {
            return true;
        }

        boolean canDropFirst() {
            return true;
        }

        /** THE SUM without the first one of n bytes, which is 0. */
        long withoutLeadingZero(long s, int n) {
            return s;
        }
    }

    /** A PLAIN one is a WEIGHTED one whose only weight is 1. */
    private static final class Weighted extends Linear {
        private final int modulus;
        private final int[] weights;

        Weighted(int kind, int modulus, int[] weights) {
            super(kind);
            this.modulus = modulus;
            this.weights = weights;
        }

        long ofRow(int[] bytes, int length) {
            long total = 0;
            for (int i = 0; i < length; i++) {
                total += (long) weightAt(i) * bytes[i];
            }
            return total % modulus;
        }

        private int weightAt(int i) {
            return weights[i % weights.length];
        }

        boolean holds(long s) {
            return s >= 0 && s < modulus;
        }

        long merged(long x, long y) {
            return (x + y) % modulus;
        }

        long changed(int n, int i, int a, int b) {
            return Math.floorMod((long) weightAt(i) * (b - a), (long) modulus);
        }

        long carried(long s, int bytes) {
            return s;
        }

        boolean canJoinBehind(int n) {
            return n % weights.length == 0;
        }

        boolean canDropFirst() {
            return weights.length == 1;
        }
    }

    private static final class Twofold extends Linear {
        private final int modulus;

        Twofold(int modulus) {
            super(TWOFOLD);
            this.modulus = modulus;
        }

        long ofRow(int[] bytes, int length) {
            long a = 0;
            long b = 0;
            for (int i = 0; i < length; i++) {
                a = (a + bytes[i]) % modulus;
                b = (b + a) % modulus;
            }
            return packed(a, b);
        }

        private static long packed(long a, long b) {
            return 65536 * b + a;
        }

        private static long partA(long s) {
            return s & 65535;
        }

        private static long partB(long s) {
            return s >> 16;
        }

        boolean holds(long s) {
            return s >= 0 && partA(s) < modulus && partB(s) < modulus;
        }

        long merged(long x, long y) {
            return packed((partA(x) + partA(y)) % modulus, (partB(x) + partB(y)) % modulus);
        }

        long changed(int n, int i, int a, int b) {
            long more = b - a;
            return packed(Math.floorMod(more, (long) modulus), Math.floorMod((n - i) * more, (long) modulus));
        }

        long carried(long s, int bytes) {
            return packed(partA(s), (partB(s) + bytes * partA(s)) % modulus);
        }
    }

    private static final class Turning extends Linear {
        private final int width;
        private final int turn;

        Turning(int width, int turn) {
            super(TURNING);
            this.width = width;
            this.turn = turn;
        }

        long ofRow(int[] bytes, int length) {
            long s = 0;
            for (int i = 0; i < length; i++) {
                s = carried(s, 1) ^ bytes[i];
            }
            return s;
        }

        boolean holds(long s) {
            return fits(s, width);
        }

        long merged(long x, long y) {
            return x ^ y;
        }

        long changed(int n, int i, int a, int b) {
            return carried(a ^ b, n - 1 - i);
        }

        long carried(long s, int bytes) {
            int by = turn * bytes % width;
            return (s << by | s >>> (width - by)) & maskOf(width);
        }

        boolean isByExclusiveOr() {
            return true;
        }
    }

    /** MENDING ones, too. */
    private static final class Divided extends Linear {
        final int width;
        final long polynomial;
        final boolean low;
        private final long begin;
        private final long finish;

        Divided(int kind, int width, long polynomial, long begin, long finish, boolean low) {
            super(kind);
            this.width = width;
            this.polynomial = polynomial;
            this.begin = begin;
            this.finish = finish;
            this.low = low;
        }

        long ofRow(int[] bytes, int length) {
            long s = begin;
            for (int i = 0; i < length; i++) {
                s = afterByte(s, bytes[i]);
            }
            return s ^ finish;
        }

        private long afterByte(long s, int b) {
            long state = s;
            for (int j = 0; j < 8; j++) {
                long bit = (low ? b >> j : b >> (7 - j)) & 1;
                state = doubled(state ^ bit << (width - 1), width, polynomial);
            }
            return state;
        }

        static long doubled(long s, int width, long polynomial) {
            long twice = s << 1 & maskOf(width);
            return (s >> (width - 1) & 1) == 1 ? twice ^ polynomial : twice;
        }

        boolean holds(long s) {
            return fits(s, width);
        }

        long merged(long x, long y) {
            return x ^ y;
        }

        long changed(int n, int i, int a, int b) {
            return afterZeros(afterByte(0, a ^ b), n - 1 - i);
        }

        private long afterZeros(long s, int bytes) {
            long state = s;
            for (int step = 0; step < 8 * bytes; step++) {
                state = doubled(state, width, polynomial);
            }
            return state;
        }

        // The second row's SUM holds BEGIN and FINISH already; so the first one hands on only what it adds to BEGIN.
        long carried(long s, int bytes) {
            return afterZeros(s ^ finish ^ begin, bytes);
        }

        // BEGIN goes through one byte less.
        long withoutLeadingZero(long s, int n) {
            return s ^ afterZeros(afterByte(begin, 0) ^ begin, n - 1);
        }

        boolean isByExclusiveOr() {
            return true;
        }

        int findPeriod() {
            long s = 1;
            for (int times = 1; times <= MOST_PERIOD && s != 0; times++) {
                s = doubled(s, width, polynomial);
                if (s == 1) {
                    return times;
                }
            }
            return NONE;
        }
    }

    private static final class Square extends Sum {
        private final int size;
        private final int[] cells;

        Square(int size, int[] cells) {
            super(SQUARE);
            this.size = size;
            this.cells = cells;
        }

        long ofRow(int[] bytes, int length) {
            int s = 0;
            for (int i = 0; i < length; i++) {
                if (bytes[i] >= size) {
                    return NOT;
                }
                s = cell(s, bytes[i]);
            }
            return s;
        }

        private int cell(int s, int b) {
            return cells[size * s + b];
        }

        boolean seesSingles() {
            for (int s = 0; s < size; s++) {
                for (int a = 0; a < size; a++) {
                    for (int b = a + 1; b < size; b++) {
                        if (cell(s, a) == cell(s, b) || cell(a, s) == cell(b, s)) {
                            return false;
                        }
                    }
                }
            }
            return true;
        }

        boolean seesSwaps() {
            for (int s = 0; s < size; s++) {
                for (int a = 0; a < size; a++) {
                    for (int b = a + 1; b < size; b++) {
                        if (cell(cell(s, a), b) == cell(cell(s, b), a)) {
                            return false;
                        }
                    }
                }
            }
            return true;
        }

        boolean seesTwins() {
            for (int s = 0; s < size; s++) {
                for (int a = 0; a < size; a++) {
                    for (int b = a + 1; b < size; b++) {
                        if (cell(cell(s, a), a) == cell(cell(s, b), b)) {
                            return false;
                        }
                    }
                }
            }
            return true;
        }
    }

    // ---- what the calls search with

    /** Searches THE FIRST SLIP that PASSES, and keeps the one that was found last. */
    private static final class Slips {
        private final long[] rising = new long[8 * MOST_SLIP_BYTES];
        private final long[] falling = new long[8 * MOST_SLIP_BYTES];
        private final int[] turned = new int[MOST_BURST];
        private final long[] totals = new long[1 << (MOST_BURST - 2)];
        final int[] before = new int[MOST_SLIP_BYTES];
        final int[] after = new int[MOST_SLIP_BYTES];
        int keptBytes = 0;

        boolean findFirst(Linear sum, int slip, int bits, int n) {
            fillBitChanges(sum, n);
            if (slip == FLIP) {
                return findFlip(sum, bits, n, 0, 0);
            }
            return slip == BURST ? findBurst(sum, bits, n) : findByteSlip(sum, slip, n);
        }

        private void fillBitChanges(Linear sum, int n) {
            for (int place = 0; place < 8 * n; place++) {
                int i = byteOfPlace(place);
                int bit = bitOfPlace(place);
                rising[place] = sum.changed(n, i, 0, bit);
                falling[place] = sum.changed(n, i, bit, 0);
            }
        }

        private boolean findFlip(Linear sum, int bits, int n, int depth, int from) {
            if (depth >= bits - 1) {
                return findLastFlip(sum, bits, n, from);
            }
            for (int place = from; place < 8 * n; place++) {
                turned[depth] = place;
                if (findFlip(sum, bits, n, depth + 1, place + 1)) {
                    return true;
                }
            }
            return false;
        }

        private boolean findLastFlip(Linear sum, int bits, int n, int from) {
            int totalCount = fillTotals(sum, bits - 1);
            for (int place = from; place < 8 * n; place++) {
                int bitsBefore = bitsThatPass(place, totalCount);
                if (bitsBefore != NONE) {
                    turned[bits - 1] = place;
                    keepTurned(n, bits, bitsBefore);
                    return true;
                }
            }
            return false;
        }

        private boolean findBurst(Linear sum, int bits, int n) {
            int inner = bits > 2 ? 1 << (bits - 2) : 1;
            for (int first = 0; first + bits <= 8 * n; first++) {
                int last = first + bits - 1;
                for (int between = 0; between < inner; between++) {
                    int heads = fillBurstHeads(first, bits, between);
                    int bitsBefore = bitsThatPass(last, fillTotals(sum, heads));
                    if (bitsBefore != NONE) {
                        turned[heads] = last;
                        keepTurned(n, heads + 1, bitsBefore);
                        return true;
                    }
                }
            }
            return false;
        }

        /** All PLACES of the burst that are turned, but for the last one: how many. */
        private int fillBurstHeads(int first, int bits, int between) {
            int heads = 0;
            for (int j = 0; j < bits - 1; j++) {
                if (j == 0 || (between >> (bits - 2 - j) & 1) == 1) {
                    turned[heads] = first + j;
                    heads++;
                }
            }
            return heads;
        }

        /**
         * What turning the first PLACES that are turned comes to, for all bits that may be there before, these
         * rising as numbers: how many. The first bit is always 0: with all bits the other way round a change is
         * undone, so what passes with a 1 there passes with a 0, too.
         */
        private int fillTotals(Linear sum, int heads) {
            totals[0] = 0;
            int size = 1;
            for (int d = 0; d < heads; d++) {
                int place = turned[d];
                if (d == 0 || sum.isByExclusiveOr()) {
                    totals[0] = sum.merged(totals[0], rising[place]);
                } else {
                    for (int i = size - 1; i >= 0; i--) {
                        long total = totals[i];
                        totals[2 * i + 1] = sum.merged(total, falling[place]);
                        totals[2 * i] = sum.merged(total, rising[place]);
                    }
                    size *= 2;
                }
            }
            return size;
        }

        /** The least bits before, with which the totals and the last PLACE come to no change; or NONE. */
        private int bitsThatPass(int last, int totalCount) {
            long rise = rising[last];
            long fall = falling[last];
            for (int i = 0; i < totalCount; i++) {
                if (totals[i] == fall) {
                    return 2 * i;
                }
                if (totals[i] == rise) {
                    return 2 * i + 1;
                }
            }
            return NONE;
        }

        private void keepTurned(int n, int turnedCount, int bitsBefore) {
            keepZeros(n);
            for (int d = 0; d < turnedCount; d++) {
                int i = byteOfPlace(turned[d]);
                int bit = bitOfPlace(turned[d]);
                if ((bitsBefore >> (turnedCount - 1 - d) & 1) == 1) {
                    before[i] |= bit;
                } else {
                    after[i] |= bit;
                }
            }
        }

        private void keepZeros(int n) {
            Arrays.fill(before, 0);
            Arrays.fill(after, 0);
            keptBytes = n;
        }

        // a is not searched: the change hangs on b - a alone (or on a by exclusive or with b), so if any slip
        // passes, one with a 0 does.
        private boolean findByteSlip(Linear sum, int slip, int n) {
            int gap = slip == BYTE ? 0 : slip == APART ? 2 : 1;
            for (int i = 0; i + gap < n; i++) {
                for (int b = 1; b <= 255; b++) {
                    if (byteSlipChange(sum, slip, i, i + gap, b) == 0) {
                        keepByteSlip(slip, n, i, i + gap, b);
                        return true;
                    }
                }
            }
            return false;
        }

        private long byteSlipChange(Linear sum, int slip, int i, int second, int b) {
            long change = mergedBits(sum, rising, i, b);
            if (slip == BYTE) {
                return change;
            }
            return sum.merged(change, mergedBits(sum, slip == TWIN ? rising : falling, second, b));
        }

        private static long mergedBits(Linear sum, long[] bitChanges, int i, int b) {
            long change = 0;
            for (int j = 0; j < 8; j++) {
                if ((b & 128 >> j) != 0) {
                    change = sum.merged(change, bitChanges[8 * i + j]);
                }
            }
            return change;
        }

        private void keepByteSlip(int slip, int n, int i, int second, int b) {
            keepZeros(n);
            after[i] = b;
            if (slip == TWIN) {
                after[second] = b;
            } else if (slip != BYTE) {
                before[second] = b;
            }
        }
    }

    /** How often each number was noted; unlike ones are MOST_PAIRS at most. */
    private static final class Tally {
        private static final int BUCKET_BITS = 9;
        private static final long SCATTER = 0x9E3779B97F4A7C15L;

        private final int[] firstEntry = new int[1 << BUCKET_BITS];
        private final int[] nextEntry = new int[MOST_PAIRS];
        private final long[] numbers = new long[MOST_PAIRS];
        private final int[] counts = new int[MOST_PAIRS];
        private int size = 0;

        void forget() {
            Arrays.fill(firstEntry, -1);
            size = 0;
        }

        private static int bucketOf(long number) {
            return (int) (number * SCATTER >>> (64 - BUCKET_BITS));
        }

        private int entryOf(long number, int bucket) {
            int entry = firstEntry[bucket];
            for (int steps = 0; steps < size && entry >= 0; steps++) {
                if (numbers[entry] == number) {
                    return entry;
                }
                entry = nextEntry[entry];
            }
            return -1;
        }

        int timesOf(long number) {
            int entry = entryOf(number, bucketOf(number));
            return entry < 0 ? 0 : counts[entry];
        }

        void note(long number) {
            int bucket = bucketOf(number);
            int entry = entryOf(number, bucket);
            if (entry >= 0) {
                counts[entry]++;
            } else if (size < numbers.length) {
                numbers[size] = number;
                counts[size] = 1;
                nextEntry[size] = firstEntry[bucket];
                firstEntry[bucket] = size;
                size++;
            }
        }
    }

    /** The SYNDROMES of all PLACES, and the sets of PLACES whose SYNDROMES come to 0. */
    private static final class PlaceSets {
        final long[] syndromes = new long[8 * MOST_BYTES];
        int places = 0;
        private final Tally tally = new Tally();

        void load(int n, int width, long polynomial, boolean low) {
            places = 8 * n;
            long syndrome = polynomial;
            for (int fromEnd = 0; fromEnd < places; fromEnd++) {
                int taken = places - 1 - fromEnd;
                syndromes[low ? taken ^ 7 : taken] = syndrome;
                syndrome = Divided.doubled(syndrome, width, polynomial);
            }
        }

        int firstPlaceOf(long syndrome) {
            for (int place = 0; place < places; place++) {
                if (syndromes[place] == syndrome) {
                    return place;
                }
            }
            return NONE;
        }

        /** Beyond MOST_WEIGHT, where there is no such set up to it. */
        int leastSize() {
            int size = 1;
            while (size <= MOST_WEIGHT && howMany(size) == 0) {
                size++;
            }
            return size;
        }

        int howMany(int size) {
            switch (size) {
                case 1:
                    return howManySingles();
                case 2:
                    return howManyPairs();
                case 3:
                    return howManyThrees();
                default:
                    return howManyFours();
            }
        }

        private int howManySingles() {
            int found = 0;
            for (int a = 0; a < places; a++) {
                if (syndromes[a] == 0) {
                    found++;
                }
            }
            return found;
        }

        private int howManyPairs() {
            int found = 0;
            for (int a = 0; a < places; a++) {
                for (int b = a + 1; b < places; b++) {
                    if (syndromes[a] == syndromes[b]) {
                        found++;
                    }
                }
            }
            return found;
        }

        // The tally holds the single PLACES below b.
        private int howManyThrees() {
            int found = 0;
            tally.forget();
            for (int b = 0; b < places; b++) {
                for (int c = b + 1; c < places; c++) {
                    found += tally.timesOf(syndromes[b] ^ syndromes[c]);
                }
                tally.note(syndromes[b]);
            }
            return found;
        }

        // The tally holds the pairs of PLACES below c.
        private int howManyFours() {
            int found = 0;
            tally.forget();
            for (int c = 0; c < places; c++) {
                for (int d = c + 1; d < places; d++) {
                    found += tally.timesOf(syndromes[c] ^ syndromes[d]);
                }
                for (int a = 0; a < c; a++) {
                    tally.note(syndromes[a] ^ syndromes[c]);
                }
            }
            return found;
        }

        void findFirst(int size, int[] found) {
            findFirstBehind(size, found, 0, 0, 0);
        }

        private boolean findFirstBehind(int size, int[] found, int depth, int from, long total) {
            if (depth >= size || depth >= found.length) {
                return total == 0;
            }
            for (int place = from; place < places; place++) {
                found[depth] = place;
                if (findFirstBehind(size, found, depth + 1, place + 1, total ^ syndromes[place])) {
                    return true;
                }
            }
            return false;
        }

        int findBest(int width, int n) {
            int best = NONE;
            int bestWeight = 0;
            int bestCount = 0;
            for (int p = 1; p < 1 << width && bestWeight <= MOST_WEIGHT; p += 2) {
                load(n, width, p, false);
                int weight = leastSize();
                int count = weight <= MOST_WEIGHT && weight >= bestWeight ? howMany(weight) : 0;
                if (weight > bestWeight || weight == bestWeight && count < bestCount) {
                    best = p;
                    bestWeight = weight;
                    bestCount = count;
                }
            }
            return best;
        }

        // The SYNDROMES for fewer bytes are the last ones for more, so what fails once fails for all greater n.
        int findReach(int width, long polynomial) {
            load(MOST_BYTES, width, polynomial, false);
            tally.forget();
            for (int fromEnd = 0; fromEnd < places; fromEnd++) {
                long syndrome = syndromes[places - 1 - fromEnd];
                if (Long.bitCount(syndrome) < 2 || tally.timesOf(syndrome) > 0) {
                    return fromEnd / 8;
                }
                tally.note(syndrome);
            }
            return MOST_BYTES;
        }
    }

    /** The PLACES that are told for aim(), and the WAYS that were found last. */
    private static final class Aims {
        private final int[] toldPlaces = new int[MOST_AIMED];
        int placeCount = 0;
        final int[] ways = new int[MOST_WAYS];
        int wayCount = 0;
        private final int[] usable = new int[MOST_AIMED];
        private final long[] upTo = new long[MOST_AIMED];

        boolean isTold(int place) {
            for (int j = 0; j < placeCount; j++) {
                if (toldPlaces[j] == place) {
                    return true;
                }
            }
            return false;
        }

        boolean isFull() {
            return placeCount >= MOST_AIMED;
        }

        /** Only behind isFull(). */
        int addPlace(int place) {
            toldPlaces[placeCount] = place;
            placeCount++;
            return placeCount;
        }

        /** All sets whose SYNDROMES come to what is wanted: how many. */
        int findWays(long[] syndromes, int rowPlaces, long wanted) {
            int usableCount = fillUsable(syndromes, rowPlaces);
            int found = 0;
            long total = 0;
            for (int chosen = 0; chosen < 1 << usableCount; chosen++) {
                if (chosen > 0) {
                    // counting on by 1 turns the lowest bit that is 1 now, and all below it
                    total ^= upTo[Integer.numberOfTrailingZeros(chosen)];
                }
                if (total == wanted) {
                    if (found < MOST_WAYS) {
                        ways[found] = wayOf(chosen, usableCount);
                    }
                    found++;
                }
            }
            wayCount = Math.min(found, MOST_WAYS);
            return found;
        }

        private int fillUsable(long[] syndromes, int rowPlaces) {
            int usableCount = 0;
            long total = 0;
            for (int j = 0; j < placeCount; j++) {
                if (toldPlaces[j] < rowPlaces) {
                    total ^= syndromes[toldPlaces[j]];
                    upTo[usableCount] = total;
                    usable[usableCount] = j;
                    usableCount++;
                }
            }
            return usableCount;
        }

        private int wayOf(int chosen, int usableCount) {
            int way = 0;
            for (int u = 0; u < usableCount; u++) {
                if ((chosen >> u & 1) == 1) {
                    way |= 1 << usable[u];
                }
            }
            return way;
        }
    }
}
