/** Promises 16 to 18: every sentence that names a boundary case, one by one. */
public final class FromSumsEdgesTest {
    private static final int[] NO_SUMS = {-1, States.NO_SUM, 16, Integer.MIN_VALUE, Integer.MAX_VALUE};
    private static final int[] NO_BYTES = {-1, 256, Integer.MIN_VALUE, Integer.MAX_VALUE};

    /** The last sum within its bounds, by the number of the sum in States. */
    private static final long[] LAST = {96, 65536L * 254 + 254, 100, 98, 8191, 65535, 0xFFFFFFFFL};

    public static void main(String[] args) {
        joinedTakes0To1000Bytes();
        joinedWithEmptyRows();
        joinedOfTheLongestRows();
        joinedTakesSumsWithinTheirBounds();
        joinedWeightedAtMultiples();
        joinedRefusesInOrder();
        otherTakes1To1000Bytes();
        otherTakesBytesOfTheRow();
        otherTakes0To255();
        otherWrapsAround();
        otherTakesSumsWithinTheirBounds();
        otherOfAnyWeights();
        otherRefusesInOrder();
        lessTakes1To1000Bytes();
        lessTakes0To255();
        lessTakesSumsWithinTheirBounds();
        lessOfOneByteAndWrapAround();
        lessWithOneWeightAlone();
        lessRefusesInOrder();
        twofoldBounds();
        boundsAtTheGreatestModuli();
        Due.end();
    }

    private static int[] someBytes(int many, int begin) {
        int[] bytes = new int[many];
        for (int i = 0; i < many; i++) {
            bytes[i] = (begin + i * 151) % 256;
        }
        return bytes;
    }

    /** The same eight sums as States has, by the plain model, which takes rows of any length. */
    private static PlainSmith plainEight() {
        PlainSmith y = new PlainSmith();
        y.plain(97);
        y.twofold(255);
        y.tell(7);
        y.tell(3);
        y.weighted(101);
        y.tell(5);
        y.weighted(99);
        y.turning(13, 5);
        y.divided(16, 0x1021, 0xFFFF, 0x0F0F, false, false);
        y.divided(32, 0x04C11DB7L, 0xFFFFFFFFL, 0x12345678L, true, true);
        return y;
    }

    /** Numbers that are no SUM of that one. */
    private static long[] beyond(int k) {
        return new long[] {LAST[k] + 1, -1, Long.MIN_VALUE, Long.MAX_VALUE, Integer.MIN_VALUE, 1L << 32};
    }

    // ---- promise 16

    private static void joinedTakes0To1000Bytes() {
        Due.promise(16, "a row of n bytes (0 .. 1000), one of o bytes (0 .. 1000). OUTSIDE");
        for (int k = States.PLAIN; k <= States.MENDING; k++) {
            int sum = k;
            for (int n : new int[] {-1, 1001, Integer.MIN_VALUE, Integer.MAX_VALUE}) {
                String call = "joined(" + k + "), ";
                Refused.due(call + "n " + n, States::some, x -> x.joined(sum, 0, n, 0, 0), SumSmith.OUTSIDE);
                Refused.due(call + "o " + n, States::some, x -> x.joined(sum, 0, 0, 0, n), SumSmith.OUTSIDE);
            }
        }
        SumSmith x = States.eightSums();
        Due.due("plain, n 0", x.joined(States.PLAIN, 0, 0, 5, 1), 5);
        Due.due("plain, n 1000", x.joined(States.PLAIN, 7, 1000, 5, 1), 12);
        Due.due("plain, o 0", x.joined(States.PLAIN, 7, 1, 0, 0), 7);
        Due.due("plain, o 1000", x.joined(States.PLAIN, 7, 1, 5, 1000), 12);
        Refused.changesNothing("joined", States::some, y -> y.joined(States.MENDING, 1, 1000, 1, 1000));
    }

    private static void joinedWithEmptyRows() {
        Due.promise(16, "n bytes (0 ..), o bytes (0 ..)");
        SumSmith x = States.eightSums();
        for (int k = States.PLAIN; k <= States.MENDING; k++) {
            long none = States.sumOf(x, k);
            long s = States.sumOf(x, k, 255, 0, 129, 3);
            Due.due("joined(" + k + "), the first is empty", x.joined(k, none, 0, s, 4), s);
            Due.due("joined(" + k + "), the second is empty", x.joined(k, s, 4, none, 0), s);
            Due.due("joined(" + k + "), both are empty", x.joined(k, none, 0, none, 0), none);
        }
    }

    private static void joinedOfTheLongestRows() {
        Due.promise(16, "n bytes (.. 1000), o bytes (.. 1000)");
        SumSmith x = States.eightSums();
        PlainSmith y = plainEight();
        int[][] lengths = {{1000, 1000}, {1000, 1}, {1000, 0}, {2, 1000}, {0, 1000}, {2, 999}, {998, 1000}};
        for (int[] length : lengths) {
            int[] one = someBytes(length[0], 17);
            int[] two = someBytes(length[1], 201);
            for (int k = States.PLAIN; k <= States.MENDING; k++) {
                Due.due("joined(" + k + "), " + one.length + " and " + two.length + " bytes",
                    x.joined(k, y.sumOf(k, one), one.length, y.sumOf(k, two), two.length), y.joined(k, one, two));
            }
        }
    }

    private static void joinedTakesSumsWithinTheirBounds() {
        Due.promise(16, "OUTSIDE: s, u beyond their bounds: below m; A and B below m; of n bits");
        SumSmith x = States.eightSums();
        for (int k = States.PLAIN; k <= States.MENDING; k++) {
            int sum = k;
            Due.due("joined(" + k + "), s last", Math.min(x.joined(k, LAST[k], 0, 0, 0), 0), 0);
            Due.due("joined(" + k + "), u last", Math.min(x.joined(k, 0, 0, LAST[k], 0), 0), 0);
            Due.due("joined(" + k + "), both 0", Math.min(x.joined(k, 0, 0, 0, 0), 0), 0);
            for (long s : beyond(k)) {
                String call = "joined(" + k + "), ";
                Refused.due(call + "s " + s, States::some, y -> y.joined(sum, s, 0, 0, 0), SumSmith.OUTSIDE);
                Refused.due(call + "u " + s, States::some, y -> y.joined(sum, 0, 0, s, 0), SumSmith.OUTSIDE);
            }
        }
        Due.due("plain, m - 1 and 1", x.joined(States.PLAIN, 96, 1, 1, 1), 0);
        Due.due("plain, m - 1 twice", x.joined(States.PLAIN, 96, 1, 96, 1), 95);
        Due.due("twofold, A and B m - 1 twice", x.joined(States.TWOFOLD, 65536L * 254 + 254, 1, 65536L * 254 + 254, 1),
            65536L * (3 * 254 % 255) + 2 * 254 % 255);
        Due.due("turning, the highest bit", x.joined(States.TURNING, 1 << 12, 1, 0, 1), 1 << 4);
    }

    private static SumSmith ofWeights(int many) {
        SumSmith x = new SumSmith();
        for (int i = 0; i < many; i++) {
            x.tell(i + 1);
        }
        x.weighted(97);
        return x;
    }

    private static void joinedWeightedAtMultiples() {
        Due.promise(16, "WEIGHTED: JOINED only where the first row's n is a multiple of w. NOT");
        for (int w : new int[] {1, 2, 3, 7, 12}) {
            for (int n = 0; n <= 1000; n++) {
                long want = n % w == 0 ? 12 : SumSmith.NOT;
                Due.due("n " + n + " of " + w + " weights", ofWeights(w).joined(0, 7, n, 5, 3), want);
            }
        }
        Due.due("o is no multiple", ofWeights(12).joined(0, 7, 12, 5, 13), 12);
        Refused.due("n 1 of 2", States::some, x -> x.joined(States.TWO_WEIGHTS, 7, 1, 5, 2), SumSmith.NOT);
        Refused.due("n 999 of 2", States::some, x -> x.joined(States.TWO_WEIGHTS, 7, 999, 5, 0), SumSmith.NOT);
    }

    private static void joinedRefusesInOrder() {
        Due.promise(16, "UNKNOWN; KIND; OUTSIDE; NOT");
        for (int k : NO_SUMS) {
            Refused.due("joined(" + k + ")", States::some, x -> x.joined(k, 0, 0, 0, 0), SumSmith.UNKNOWN);
            Refused.due("joined(" + k + "), OUTSIDE", States::some, x -> x.joined(k, -1, -1, -1, -1), SumSmith.UNKNOWN);
        }
        Refused.due("joined(0) of none", States::fresh, x -> x.joined(0, 0, 0, 0, 0), SumSmith.UNKNOWN);
        int square = States.SQUARE;
        Refused.due("a SQUARE", States::some, x -> x.joined(square, 0, 1, 0, 1), SumSmith.KIND);
        Refused.due("a SQUARE, OUTSIDE", States::some, x -> x.joined(square, -1, -1, -1, -1), SumSmith.KIND);
        int w = States.TWO_WEIGHTS;
        Refused.due("s and n", States::some, x -> x.joined(w, 101, 1, 0, 1), SumSmith.OUTSIDE);
        Refused.due("u and n", States::some, x -> x.joined(w, 0, 1, 101, 1), SumSmith.OUTSIDE);
        Refused.due("o and n", States::some, x -> x.joined(w, 0, 1, 0, 1001), SumSmith.OUTSIDE);
        Refused.due("n too great and odd", States::some, x -> x.joined(w, 0, 1001, 0, 1), SumSmith.OUTSIDE);
        Refused.due("n -1", States::some, x -> x.joined(w, 0, -1, 0, 1), SumSmith.OUTSIDE);
    }

    // ---- promise 17

    private static void otherTakes1To1000Bytes() {
        Due.promise(17, "a row of n bytes (1 .. 1000). OUTSIDE");
        SumSmith x = States.eightSums();
        PlainSmith y = plainEight();
        for (int k = States.PLAIN; k <= States.MENDING; k++) {
            int sum = k;
            for (int n : new int[] {1, 2, 999, 1000}) {
                int[] bytes = someBytes(n, 77);
                for (int i : new int[] {0, n - 1}) {
                    Due.due("other(" + k + "), byte " + i + " of " + n,
                        x.other(k, y.sumOf(k, bytes), n, i, bytes[i], 200), y.other(k, bytes, i, 200));
                }
            }
            for (int n : new int[] {0, -1, 1001, Integer.MIN_VALUE, Integer.MAX_VALUE}) {
                Refused.due("other(" + k + "), n " + n, States::some, z -> z.other(sum, 0, n, 0, 0, 0), SumSmith.OUTSIDE);
            }
        }
        Refused.changesNothing("other", States::some, z -> z.other(States.MENDING, 1, 3, 2, 1, 9));
    }

    private static void otherTakesBytesOfTheRow() {
        Due.promise(17, "OUTSIDE: also i");
        for (int k = States.PLAIN; k <= States.MENDING; k++) {
            int sum = k;
            Due.due("other(" + k + "), i 0 of 1", States.eightSums().other(k, 0, 1, 0, 1, 1), 0);
            Due.due("other(" + k + "), i 999 of 1000", States.eightSums().other(k, 0, 1000, 999, 1, 1), 0);
            for (int i : new int[] {-1, 3, 4, Integer.MIN_VALUE, Integer.MAX_VALUE}) {
                Refused.due("other(" + k + "), i " + i + " of 3", States::some, x -> x.other(sum, 0, 3, i, 1, 1),
                    SumSmith.OUTSIDE);
            }
            Refused.due("other(" + k + "), i 1000 of 1000", States::some, x -> x.other(sum, 0, 1000, 1000, 1, 1),
                SumSmith.OUTSIDE);
        }
    }

    private static void otherTakes0To255() {
        Due.promise(17, "byte i is a, and is b then. OUTSIDE");
        for (int k = States.PLAIN; k <= States.MENDING; k++) {
            int sum = k;
            SumSmith x = States.eightSums();
            Due.due("other(" + k + "), 0 to 255", x.other(k, States.sumOf(x, k, 1, 0), 2, 1, 0, 255),
                States.sumOf(x, k, 1, 255));
            Due.due("other(" + k + "), 255 to 0", x.other(k, States.sumOf(x, k, 255, 1), 2, 0, 255, 0),
                States.sumOf(x, k, 0, 1));
            for (int b : NO_BYTES) {
                String call = "other(" + k + "), ";
                Refused.due(call + "a " + b, States::some, y -> y.other(sum, 0, 1, 0, b, 0), SumSmith.OUTSIDE);
                Refused.due(call + "b " + b, States::some, y -> y.other(sum, 0, 1, 0, 0, b), SumSmith.OUTSIDE);
            }
        }
    }

    private static void otherWrapsAround() {
        Due.promise(17, "OTHER, modulo m");
        SumSmith x = States.eightSums();
        Due.due("plain, up over m", x.other(States.PLAIN, 96, 1, 0, 0, 1), 0);
        Due.due("plain, down under 0", x.other(States.PLAIN, 0, 1, 0, 1, 0), 96);
        Due.due("plain, down by more than m", x.other(States.PLAIN, 0, 1, 0, 255, 0), 3 * 97 - 255);
        Due.due("twofold, up over m", x.other(States.TWOFOLD, LAST[States.TWOFOLD], 1, 0, 0, 1), 0);
        Due.due("twofold, down under 0", x.other(States.TWOFOLD, 0, 1, 0, 1, 0), LAST[States.TWOFOLD]);
        Due.due("twofold, B down twice", x.other(States.TWOFOLD, 0, 2, 0, 1, 0), 65536L * 253 + 254);
        Due.due("weighted, down under 0", x.other(States.TWO_WEIGHTS, 0, 2, 1, 1, 0), 98);
    }

    private static void otherTakesSumsWithinTheirBounds() {
        Due.promise(17, "OUTSIDE: s beyond its bounds");
        for (int k = States.PLAIN; k <= States.MENDING; k++) {
            int sum = k;
            Due.due("other(" + k + "), s last", States.eightSums().other(k, LAST[k], 1, 0, 1, 1), LAST[k]);
            for (long s : beyond(k)) {
                Refused.due("other(" + k + "), s " + s, States::some, x -> x.other(sum, s, 1, 0, 1, 1), SumSmith.OUTSIDE);
            }
        }
    }

    private static void otherOfAnyWeights() {
        Due.promise(17, "OTHER (WEIGHT (i modulo w), also where JOINED and LESS are NOT)");
        for (int w : new int[] {1, 2, 12}) {
            for (int i : new int[] {0, w - 1, w, 2 * w - 1, 2 * w, 999}) {
                Due.due("byte " + i + " of " + w + " weights", ofWeights(w).other(0, 3, 1000, i, 4, 5), 3 + i % w + 1);
            }
        }
    }

    private static void otherRefusesInOrder() {
        Due.promise(17, "UNKNOWN: the SUM; KIND; OUTSIDE");
        for (int k : NO_SUMS) {
            Refused.due("other(" + k + ")", States::some, x -> x.other(k, 0, 1, 0, 0, 0), SumSmith.UNKNOWN);
            Refused.due("other(" + k + "), OUTSIDE", States::some, x -> x.other(k, -1, 0, -1, -1, -1), SumSmith.UNKNOWN);
        }
        Refused.due("other(0) of none", States::fresh, x -> x.other(0, 0, 1, 0, 0, 0), SumSmith.UNKNOWN);
        Refused.due("a SQUARE", States::some, x -> x.other(States.SQUARE, 0, 1, 0, 0, 1), SumSmith.KIND);
        Refused.due("a SQUARE, OUTSIDE", States::some, x -> x.other(States.SQUARE, -1, 0, -1, -1, -1), SumSmith.KIND);
    }

    // ---- promise 18

    private static void lessTakes1To1000Bytes() {
        Due.promise(18, "a row of n bytes (1 .. 1000). OUTSIDE");
        SumSmith x = States.eightSums();
        PlainSmith y = plainEight();
        for (int k = States.PLAIN; k <= States.MENDING; k++) {
            int sum = k;
            for (int n : new int[] {0, -1, 1001, Integer.MIN_VALUE, Integer.MAX_VALUE}) {
                Refused.due("less(" + k + "), n " + n, States::some, z -> z.less(sum, 0, n, 0), SumSmith.OUTSIDE);
            }
            for (int n : new int[] {1, 2, 999, 1000}) {
                int[] bytes = someBytes(n, 99);
                Due.due("less(" + k + "), " + n + " bytes", x.less(k, y.sumOf(k, bytes), n, bytes[0]), y.less(k, bytes));
            }
        }
        Refused.changesNothing("less", States::some, z -> z.less(States.MENDING, 1, 1000, 1));
    }

    private static void lessTakes0To255() {
        Due.promise(18, "the first one is a. OUTSIDE");
        for (int k = States.PLAIN; k <= States.MENDING; k++) {
            int sum = k;
            if (k != States.TWO_WEIGHTS) {
                SumSmith x = States.eightSums();
                Due.due("less(" + k + "), a 0", x.less(k, States.sumOf(x, k, 0, 9, 8), 3, 0), States.sumOf(x, k, 9, 8));
                Due.due("less(" + k + "), a 255", x.less(k, States.sumOf(x, k, 255, 9, 8), 3, 255),
                    States.sumOf(x, k, 9, 8));
            }
            for (int a : NO_BYTES) {
                Refused.due("less(" + k + "), a " + a, States::some, z -> z.less(sum, 0, 1, a), SumSmith.OUTSIDE);
            }
        }
    }

    private static void lessTakesSumsWithinTheirBounds() {
        Due.promise(18, "OUTSIDE: s beyond its bounds");
        for (int k = States.PLAIN; k <= States.MENDING; k++) {
            int sum = k;
            if (k != States.TWO_WEIGHTS) {
                Due.due("less(" + k + "), s last", Math.min(States.eightSums().less(k, LAST[k], 1, 0), 0), 0);
                Due.due("less(" + k + "), s 0", Math.min(States.eightSums().less(k, 0, 1, 0), 0), 0);
            }
            for (long s : beyond(k)) {
                Refused.due("less(" + k + "), s " + s, States::some, x -> x.less(sum, s, 1, 0), SumSmith.OUTSIDE);
            }
        }
    }

    private static void lessOfOneByteAndWrapAround() {
        Due.promise(18, "LESS: of a row without its first byte (the only one; modulo m)");
        SumSmith x = States.eightSums();
        for (int k = States.PLAIN; k <= States.MENDING; k++) {
            if (k != States.TWO_WEIGHTS) {
                Due.due("less(" + k + ") of one byte", x.less(k, States.sumOf(x, k, 171), 1, 171), States.sumOf(x, k));
            }
        }
        Due.due("plain, under 0", x.less(States.PLAIN, 0, 2, 1), 96);
        Due.due("plain, by more than m", x.less(States.PLAIN, 0, 2, 255), 3 * 97 - 255);
        Due.due("twofold, under 0", x.less(States.TWOFOLD, 0, 3, 1), 65536L * 252 + 254);
        Due.due("one weight, under 0", x.less(States.ONE_WEIGHT, 4, 2, 1), 98);
    }

    private static void lessWithOneWeightAlone() {
        Due.promise(18, "WEIGHTED: LESS only with one WEIGHT. NOT");
        Due.due("1 weight", ofWeights(1).less(0, 9, 1000, 4), 5);
        for (int w = 2; w <= 12; w++) {
            int weights = w;
            for (int n : new int[] {1, w, w + 1, 1000}) {
                Due.due(w + " weights, n " + n, ofWeights(weights).less(0, 9, n, 4), SumSmith.NOT);
            }
        }
        Refused.due("2 weights", States::some, x -> x.less(States.TWO_WEIGHTS, 0, 2, 0), SumSmith.NOT);
    }

    private static void lessRefusesInOrder() {
        Due.promise(18, "UNKNOWN; KIND; OUTSIDE; NOT");
        for (int k : NO_SUMS) {
            Refused.due("less(" + k + ")", States::some, x -> x.less(k, 0, 1, 0), SumSmith.UNKNOWN);
            Refused.due("less(" + k + "), OUTSIDE", States::some, x -> x.less(k, -1, 0, -1), SumSmith.UNKNOWN);
        }
        Refused.due("less(0) of none", States::fresh, x -> x.less(0, 0, 1, 0), SumSmith.UNKNOWN);
        Refused.due("a SQUARE", States::some, x -> x.less(States.SQUARE, 0, 1, 0), SumSmith.KIND);
        Refused.due("a SQUARE, OUTSIDE", States::some, x -> x.less(States.SQUARE, -1, 0, -1), SumSmith.KIND);
        Refused.due("s and weights", States::some, x -> x.less(States.TWO_WEIGHTS, 101, 1, 0), SumSmith.OUTSIDE);
        Refused.due("n and weights", States::some, x -> x.less(States.TWO_WEIGHTS, 0, 0, 0), SumSmith.OUTSIDE);
        Refused.due("a and weights", States::some, x -> x.less(States.TWO_WEIGHTS, 0, 1, 256), SumSmith.OUTSIDE);
    }

    // ---- bounds that all three share

    private static void twofoldBounds() {
        Due.promise(17, "A and B below m");
        SumSmith x = States.eightSums();
        long[] within = {0, 254, 65536L * 254, 65536L * 254 + 254};
        long[] outside = {255, 65535, 65536L * 254 + 255, 65536L * 255, 65536L * 255 + 254, 65536L * 65536, -1, -65536};
        for (long s : within) {
            Due.due("s " + s, x.other(States.TWOFOLD, s, 1, 0, 0, 0), s);
        }
        for (long s : outside) {
            Due.due("other, s " + s, x.other(States.TWOFOLD, s, 1, 0, 0, 0), SumSmith.OUTSIDE);
            Due.due("joined, s " + s, x.joined(States.TWOFOLD, s, 1, 0, 1), SumSmith.OUTSIDE);
            Due.due("joined, u " + s, x.joined(States.TWOFOLD, 0, 1, s, 1), SumSmith.OUTSIDE);
            Due.due("less, s " + s, x.less(States.TWOFOLD, s, 1, 0), SumSmith.OUTSIDE);
        }
    }

    private static void boundsAtTheGreatestModuli() {
        Due.promise(17, "below m; A and B below m; of n bits (the greatest m and n)");
        SumSmith x = new SumSmith();
        x.plain(65536);
        x.twofold(65536);
        x.turning(32, 31);
        x.plain(2);
        x.twofold(2);
        x.turning(8, 0);
        x.divided(3, 3, 0, 0, false, false);
        long[] last = {65535, 0xFFFFFFFFL, 0xFFFFFFFFL, 1, 65537, 255, 7};
        for (int k = 0; k < last.length; k++) {
            Due.due("other(" + k + ", " + last[k] + ")", x.other(k, last[k], 1, 0, 7, 7), last[k]);
            for (long s : new long[] {last[k] + 1, -1, -65536, -65537, Long.MIN_VALUE}) {
                Due.due("other(" + k + ", " + s + ")", x.other(k, s, 1, 0, 7, 7), SumSmith.OUTSIDE);
                Due.due("joined(" + k + ", " + s + ")", x.joined(k, s, 1, 0, 1), SumSmith.OUTSIDE);
                Due.due("joined(" + k + ", .., " + s + ")", x.joined(k, 0, 1, s, 1), SumSmith.OUTSIDE);
                Due.due("less(" + k + ", " + s + ")", x.less(k, s, 1, 0), SumSmith.OUTSIDE);
            }
        }
        Due.due("A and B wrap at 65536", x.joined(1, 0xFFFFFFFFL, 1, 65536 + 1, 1), 65536L * 65535);
    }
}
