/** Promises 16 to 18: sums worked on from sums alone, held against the sums of whole rows. */
public final class FromSumsTest {
    private static final int PLAIN = 0, TWOFOLD = 1, THREE_WEIGHTS = 2, ONE_WEIGHT = 3, TURNING = 4, DIVIDED = 5,
        LOW = 6, SQUARE = 7;

    public static void main(String[] args) {
        promise16();
        promise17();
        promise18();
        farRows();
        bounds();
        Due.end();
    }

    private static SumSmith smith() {
        SumSmith x = new SumSmith();
        x.plain(97);
        x.twofold(255);
        x.tell(7);
        x.tell(3);
        x.tell(65535);
        x.weighted(101);
        x.tell(5);
        x.weighted(99);
        x.turning(13, 5);
        x.divided(16, 0x1021, 0xFFFF, 0x0F0F, false, false);
        x.divided(32, 0x04C11DB7L, 0xFFFFFFFFL, 0x12345678L, true, true);
        x.tell(0);
        x.tell(1);
        x.tell(1);
        x.tell(0);
        x.square(2);
        return x;
    }

    private static long sumOf(SumSmith x, int k, int... bytes) {
        x.cut(0);
        for (int b : bytes) {
            x.put(b);
        }
        return x.sum(k);
    }

    private static void promise16() {
        SumSmith x = smith();
        for (int k = PLAIN; k <= LOW; k++) {
            long s = sumOf(x, k, 200, 17, 255);
            long u = sumOf(x, k, 254, 3, 128, 99);
            long both = sumOf(x, k, 200, 17, 255, 254, 3, 128, 99);
            long none = sumOf(x, k);
            Due.due("joined(" + k + ")", x.joined(k, s, 3, u, 4), both);
            Due.due("joined(" + k + "), first empty", x.joined(k, none, 0, u, 4), u);
            Due.due("joined(" + k + "), second empty", x.joined(k, s, 3, none, 0), s);
            Due.due("joined(" + k + "), n -1", x.joined(k, s, -1, u, 4), SumSmith.OUTSIDE);
            Due.due("joined(" + k + "), n 1001", x.joined(k, s, 1001, u, 4), SumSmith.OUTSIDE);
            Due.due("joined(" + k + "), o -1", x.joined(k, s, 3, u, -1), SumSmith.OUTSIDE);
            Due.due("joined(" + k + "), o 1001", x.joined(k, s, 3, u, 1001), SumSmith.OUTSIDE);
        }
        Due.due("joined, n 4 of three weights", x.joined(THREE_WEIGHTS, 1, 4, 1, 1), SumSmith.NOT);
        Due.due("joined, n 4 of one weight", x.joined(ONE_WEIGHT, 1, 4, 1, 1), 2);
        Due.due("joined, outside ahead of not", x.joined(THREE_WEIGHTS, 101, 4, 1, 1), SumSmith.OUTSIDE);
        Due.due("joined, n 999 of three weights", x.joined(THREE_WEIGHTS, 100, 999, 100, 1000), 99);
        Due.due("joined, a square", x.joined(SQUARE, -1, 0, 0, 0), SumSmith.KIND);
        Due.due("joined(8)", x.joined(8, -1, 0, 0, 0), SumSmith.UNKNOWN);
        Due.due("joined(-1)", x.joined(-1, -1, 0, 0, 0), SumSmith.UNKNOWN);
    }

    private static void promise17() {
        SumSmith x = smith();
        for (int k = PLAIN; k <= LOW; k++) {
            long s = sumOf(x, k, 200, 17, 255, 4, 90);
            Due.due("other(" + k + ") first", x.other(k, s, 5, 0, 200, 1), sumOf(x, k, 1, 17, 255, 4, 90));
            Due.due("other(" + k + ") fourth", x.other(k, s, 5, 3, 4, 255), sumOf(x, k, 200, 17, 255, 255, 90));
            Due.due("other(" + k + ") last", x.other(k, s, 5, 4, 90, 0), sumOf(x, k, 200, 17, 255, 4, 0));
            Due.due("other(" + k + ") same", x.other(k, s, 5, 2, 255, 255), s);
            Due.due("other(" + k + "), i -1", x.other(k, s, 5, -1, 0, 0), SumSmith.OUTSIDE);
            Due.due("other(" + k + "), i n", x.other(k, s, 5, 5, 0, 0), SumSmith.OUTSIDE);
            Due.due("other(" + k + "), n 0", x.other(k, s, 0, 0, 0, 0), SumSmith.OUTSIDE);
            Due.due("other(" + k + "), n 1001", x.other(k, s, 1001, 0, 0, 0), SumSmith.OUTSIDE);
            Due.due("other(" + k + "), a -1", x.other(k, s, 5, 0, -1, 0), SumSmith.OUTSIDE);
            Due.due("other(" + k + "), a 256", x.other(k, s, 5, 0, 256, 0), SumSmith.OUTSIDE);
            Due.due("other(" + k + "), b -1", x.other(k, s, 5, 0, 0, -1), SumSmith.OUTSIDE);
            Due.due("other(" + k + "), b 256", x.other(k, s, 5, 0, 0, 256), SumSmith.OUTSIDE);
        }
        Due.due("other, a square", x.other(SQUARE, -1, 0, 0, 0, 0), SumSmith.KIND);
        Due.due("other(8)", x.other(8, 0, 0, 0, 0, 0), SumSmith.UNKNOWN);
    }

    private static void promise18() {
        SumSmith x = smith();
        for (int k = PLAIN; k <= LOW; k++) {
            if (k == THREE_WEIGHTS) {
                continue;
            }
            long s = sumOf(x, k, 200, 17, 255, 4);
            Due.due("less(" + k + ")", x.less(k, s, 4, 200), sumOf(x, k, 17, 255, 4));
            Due.due("less(" + k + ") of one", x.less(k, sumOf(x, k, 77), 1, 77), sumOf(x, k));
            Due.due("less(" + k + "), n 0", x.less(k, s, 0, 0), SumSmith.OUTSIDE);
            Due.due("less(" + k + "), n 1001", x.less(k, s, 1001, 0), SumSmith.OUTSIDE);
            Due.due("less(" + k + "), a -1", x.less(k, s, 4, -1), SumSmith.OUTSIDE);
            Due.due("less(" + k + "), a 256", x.less(k, s, 4, 256), SumSmith.OUTSIDE);
        }
        Due.due("less, three weights", x.less(THREE_WEIGHTS, 0, 3, 0), SumSmith.NOT);
        Due.due("less, outside ahead of not", x.less(THREE_WEIGHTS, 101, 3, 0), SumSmith.OUTSIDE);
        Due.due("less, a square", x.less(SQUARE, -1, 0, 0), SumSmith.KIND);
        Due.due("less(8)", x.less(8, 0, 1, 0), SumSmith.UNKNOWN);
    }

    /** Rows of 1000 bytes can't be put; but byte by byte they can be joined. */
    private static void farRows() {
        for (int k = PLAIN; k <= LOW; k++) {
            if (k == THREE_WEIGHTS) {
                continue;
            }
            long s = sumOf(smith(), k);
            long changed = s;
            for (int i = 0; i < 1000; i++) {
                SumSmith x = smith();
                int b = i * 37 % 256;
                s = x.joined(k, s, i, sumOf(x, k, b), 1);
                changed = x.joined(k, changed, i, sumOf(x, k, i == 1 ? 211 : b), 1);
            }
            SumSmith x = smith();
            Due.due("other(" + k + ") of 1000", x.other(k, s, 1000, 1, 37, 211), changed);
            Due.due("less(" + k + ") of 1000, there and back",
                x.joined(k, sumOf(x, k, 0), 1, x.less(k, s, 1000, 0), 999), s);
        }
    }

    private static void bounds() {
        SumSmith x = smith();
        bound(x, PLAIN, 96, 97);
        bound(x, TWOFOLD, 65536L * 254 + 254, 255);
        bound(x, TWOFOLD, 65536L * 254 + 254, 65536L * 255);
        bound(x, ONE_WEIGHT, 98, 99);
        bound(x, TURNING, 8191, 8192);
        bound(x, DIVIDED, 65535, 65536);
        bound(x, LOW, 0xFFFFFFFFL, 0x100000000L);
        for (int k = PLAIN; k <= LOW; k++) {
            bound(x, k, 0, -1);
            bound(x, k, 0, Long.MIN_VALUE);
            bound(x, k, 0, Long.MAX_VALUE);
        }
    }

    private static void bound(SumSmith x, int k, long last, long beyond) {
        Due.due("other(" + k + ", " + last + ")", x.other(k, last, 1, 0, 1, 1), last);
        Due.due("other(" + k + ", " + beyond + ")", x.other(k, beyond, 1, 0, 1, 1), SumSmith.OUTSIDE);
        Due.due("joined(" + k + ", " + beyond + ")", x.joined(k, beyond, 0, 0, 0), SumSmith.OUTSIDE);
        Due.due("joined(" + k + ", .., " + beyond + ")", x.joined(k, 0, 0, beyond, 0), SumSmith.OUTSIDE);
        Due.due("less(" + k + ", " + beyond + ")", x.less(k, beyond, 1, 0), SumSmith.OUTSIDE);
    }
}
