/** Promises 22 to 33: what is asked of divided and mending sums. */
public final class DividedTest {
    public static void main(String[] args) {
        promise22();
        promise23And24();
        promise25();
        promise26();
        promise27And28();
        promise29And30();
        manyWays();
        promise31();
        promise32();
        mendOddSums();
        promise33();
        Due.end();
    }

    private static SumSmith smith(int n, long p, boolean low, boolean mends) {
        SumSmith x = new SumSmith();
        x.divided(n, p, 0, 0, low, mends);
        x.plain(10);
        return x;
    }

    private static SumSmith smithHighAndLow() {
        SumSmith x = smith(16, 0x1021, false, false);
        x.divided(16, 0x1021, 0xFFFF, 0xABCD, true, true);
        return x;
    }

    private static void promise22() {
        for (int k = 0; k <= 2; k += 2) {
            for (int n = 1; n <= 64; n += 7) {
                SumSmith x = smithHighAndLow();
                for (int i = 0; i < n; i++) {
                    x.put(i * 29 % 256);
                }
                for (int place = 0; place < 8 * n; place += 7) {
                    long was = x.sum(k);
                    x.set(place / 8, x.at(place / 8) ^ 128 >> place % 8);
                    Due.due("syndrome(" + k + ", " + place + ", " + n + ")", x.syndrome(k, place, n), was ^ x.sum(k));
                }
            }
        }
        SumSmith x = smithHighAndLow();
        Due.due("syndrome, last place", x.syndrome(0, 511, 64), 0x1021);
        Due.due("syndrome, last place, low", x.syndrome(2, 504, 64), 0x1021);
        Due.due("syndrome, n 0", x.syndrome(0, 0, 0), SumSmith.OUTSIDE);
        Due.due("syndrome, n 65", x.syndrome(0, 0, 65), SumSmith.OUTSIDE);
        Due.due("syndrome, place -1", x.syndrome(0, -1, 1), SumSmith.OUTSIDE);
        Due.due("syndrome, place 8 n", x.syndrome(0, 512, 64), SumSmith.OUTSIDE);
        Due.due("syndrome, n MIN", x.syndrome(0, 0, Integer.MIN_VALUE), SumSmith.OUTSIDE);
        Due.due("syndrome, plain", x.syndrome(1, -1, 0), SumSmith.KIND);
        Due.due("syndrome(3)", x.syndrome(3, -1, 0), SumSmith.UNKNOWN);
    }

    private static void lightest(SumSmith x, int... places) {
        for (int i = 0; i < 4; i++) {
            Due.due("lightest(" + i + ")", x.lightest(i), i < places.length ? places[i] : SumSmith.NONE);
        }
    }

    private static void promise23And24() {
        SumSmith x = smith(3, 3, false, true);
        lightest(x);
        Due.due("lightest(-1)", x.lightest(-1), SumSmith.OUTSIDE);
        Due.due("lightest(4)", x.lightest(4), SumSmith.OUTSIDE);
        x.divided(3, 0, 0, 0, false, false);
        x.divided(8, 7, 0, 0, false, false);
        x.divided(3, 3, 0, 0, true, false);
        x.divided(32, 0x04C11DB7L, 0, 0, false, false);
        x.divided(4, 3, 0, 0, false, false);
        x.divided(5, 5, 0, 0, true, false);
        Due.due("period 7 in 8 places", x.weight(0, 1), 2);
        lightest(x, 0, 7);
        Due.due("p 0", x.weight(2, 6), 1);
        lightest(x, 0);
        Due.due("x^8 + x^2 + x + 1 in 16 places", x.weight(3, 2), 4);
        // not itself (0, 6, 7, 8), but x + 1 times it: x^9 + x^8 + x^3 + 1
        lightest(x, 0, 1, 6, 9);
        Due.due("x^8 + x^2 + x + 1 in 8 places", x.weight(3, 1), SumSmith.NONE);
        lightest(x, 0, 1, 6, 9);
        Due.due("low, the first byte's ends", x.weight(4, 1), 2);
        lightest(x, 0, 7);
        Due.due("low, two bytes", x.weight(4, 2), 2);
        lightest(x, 0, 7);
        Due.due("32 bits", x.weight(5, 6), SumSmith.NONE);
        lightest(x, 0, 7);
        Due.due("x^4 + x + 1 in one byte", x.weight(6, 1), 3);
        lightest(x, 0, 3, 4);
        Due.due("x^5 + x^2 + 1, low", x.weight(7, 1), 3);
        // of one byte, the lowest bit first, place j has the power j
        lightest(x, 0, 2, 5);
        Due.due("weight, n 0", x.weight(0, 0), SumSmith.OUTSIDE);
        Due.due("weight, n 7", x.weight(0, 7), SumSmith.OUTSIDE);
        Due.due("weight, plain", x.weight(1, 0), SumSmith.KIND);
        Due.due("weight(99)", x.weight(99, 0), SumSmith.UNKNOWN);
        lightest(x, 0, 2, 5);
    }

    private static void promise25() {
        SumSmith x = smith(3, 0, false, true);
        int[] all = {48, 48 * 47 / 2, 48 * 47 * 46 / 6, 48 * 47 * 46 / 6 * 45 / 4};
        for (int bits = 1; bits <= 4; bits++) {
            Due.due("count(0, " + bits + ", 6)", x.count(0, bits, 6), all[bits - 1]);
        }
        x.divided(3, 1, 0, 0, false, false);
        // period 3: 16, 16 and 16 places alike, three unlike ones with one bit each
        Due.due("period 3, 1", x.count(2, 1, 6), 0);
        Due.due("period 3, 2", x.count(2, 2, 6), 3 * (16 * 15 / 2));
        Due.due("period 3, 3", x.count(2, 3, 6), 0);
        Due.due("period 3, 4", x.count(2, 4, 6), 3 * (16 * 15 * 14 * 13 / 24) + 3 * 120 * 120);
        x.divided(3, 3, 0, 0, true, false);
        // each of 7 syndromes once, 0 and 7 alike: all 7 lines of the plane, and 3 of them twice
        Due.due("period 7, 3", x.count(3, 3, 1), 7 + 3);
        x.divided(32, 0x04C11DB7L, 0, 0, false, false);
        Due.due("32 bits, 4", x.count(4, 4, 6), 0);
        Due.due("count, bits 0", x.count(0, 0, 1), SumSmith.OUTSIDE);
        Due.due("count, bits 5", x.count(0, 5, 1), SumSmith.OUTSIDE);
        Due.due("count, n 0", x.count(0, 1, 0), SumSmith.OUTSIDE);
        Due.due("count, n 7", x.count(0, 1, 7), SumSmith.OUTSIDE);
        Due.due("count, plain", x.count(1, 0, 0), SumSmith.KIND);
        Due.due("count(9)", x.count(9, 0, 0), SumSmith.UNKNOWN);
        lightest(x);
    }

    private static void promise26() {
        SumSmith x = smith(16, 0x1021, false, false);
        x.divided(16, 0x002D, 5, 6, true, true);
        x.divided(17, 0x0009, 0, 0, false, false);
        x.divided(3, 2, 0, 0, false, false);
        x.divided(32, 1, 0, 0, false, false);
        x.divided(8, 0, 0, 0, false, false);
        Due.due("period of 0x1021", x.period(0), 32767);
        Due.due("period of a primitive one of 16 bits", x.period(2), 65535);
        Due.due("period of a primitive one of 17 bits", x.period(3), SumSmith.NONE);
        Due.due("period of an even one", x.period(4), SumSmith.NONE);
        Due.due("period of x^32 + 1", x.period(5), 32);
        Due.due("period of x^8", x.period(6), SumSmith.NONE);
        Due.due("period, plain", x.period(1), SumSmith.KIND);
        Due.due("period(7)", x.period(7), SumSmith.UNKNOWN);
        Due.due("period(-1)", x.period(-1), SumSmith.UNKNOWN);
    }

    private static void promise27And28() {
        SumSmith x = new SumSmith();
        Due.due("free(0) of no row", x.free(0), SumSmith.OUTSIDE);
        for (int i = 0; i < 3; i++) {
            x.put(0);
        }
        Due.due("free(-1)", x.free(-1), SumSmith.OUTSIDE);
        Due.due("free(24)", x.free(24), SumSmith.OUTSIDE);
        Due.due("free(23)", x.free(23), 1);
        Due.due("free(23) again", x.free(23), SumSmith.OUTSIDE);
        for (int j = 0; j < 15; j++) {
            Due.due("free(" + j + ")", x.free(j), j + 2);
        }
        Due.due("free, full", x.free(20), SumSmith.FULL);
        Due.due("free, full but told", x.free(23), SumSmith.OUTSIDE);
        Due.due("free, full but beyond", x.free(24), SumSmith.OUTSIDE);
        x.cut(0);
        Due.due("bind()", x.bind(), 16);
        Due.due("bind() again", x.bind(), 0);
        x.put(0);
        Due.due("free(0) again", x.free(0), 1);
    }

    private static void ways(SumSmith x, int... ways) {
        for (int i = 0; i < ways.length; i++) {
            Due.due("way(" + i + ")", x.way(i), ways[i]);
        }
        Due.due("way behind them", x.way(ways.length), SumSmith.NONE);
        Due.due("way(-1)", x.way(-1), SumSmith.NONE);
    }

    private static void promise29And30() {
        SumSmith x = smith(3, 3, false, false);
        x.divided(3, 3, 5, 6, true, true);
        Due.due("aim of no row at its sum", x.aim(0, 0), 1);
        ways(x, 0);
        Due.due("aim of no row at another", x.aim(0, 1), 0);
        ways(x);
        Due.due("aim of no row, begin and finish", x.aim(2, 3), 1);
        x.put(0);
        x.put(0);
        // syndromes of a 3-bit sum come again after 7 places: 15, 8, 1 are alike (3), 14 and 7 are 6
        x.free(15);
        x.free(8);
        x.free(14);
        x.free(1);
        Due.due("aim at 3", x.aim(0, 3), 4);
        ways(x, 1, 2, 8, 11);
        Due.due("aim at 5", x.aim(0, 5), 4);
        ways(x, 5, 6, 12, 15);
        Due.due("aim outside", x.aim(0, 8), SumSmith.OUTSIDE);
        Due.due("aim below 0", x.aim(0, -1), SumSmith.OUTSIDE);
        Due.due("aim, plain", x.aim(1, -1), SumSmith.KIND);
        Due.due("aim(3)", x.aim(3, -1), SumSmith.UNKNOWN);
        ways(x, 5, 6, 12, 15);
        x.cut(1);
        Due.due("aim at 0, one place is there yet", x.aim(0, 0), 1);
        ways(x, 0);
        Due.due("aim at its syndrome", x.aim(0, x.syndrome(0, 1, 1)), 1);
        ways(x, 8);
        x.put(0);
        Due.due("places that are there again", x.aim(0, 3), 4);
        Due.due("the row is as it was", x.at(0) + x.at(1), 0);
        x.bind();
        x.free(8);
        x.cut(1);
        Due.due("the first place that is no more", x.aim(0, 3), 0);
    }

    private static void manyWays() {
        SumSmith x = smith(3, 0, false, true);
        x.put(1);
        x.put(2);
        for (int place = 0; place < 16; place++) {
            x.free(place);
        }
        Due.due("all are ways", x.aim(0, 0), 65536);
        for (int i = 0; i < 64; i++) {
            Due.due("way(" + i + ")", x.way(i), i);
        }
        Due.due("way(64)", x.way(64), SumSmith.NONE);
        Due.due("none is a way", x.aim(0, 1), 0);
        Due.due("way(0)", x.way(0), SumSmith.NONE);
    }

    private static void promise31() {
        SumSmith x = new SumSmith();
        PlainSmith plain = new PlainSmith();
        for (int n = 2; n <= 9; n++) {
            for (int k = 0; k <= 4; k++) {
                Due.due("best(" + n + ", " + k + ")", x.best(n, k), plain.best(n, k));
            }
        }
        Due.due("best(3, 1)", x.best(3, 1), 3);
        Due.due("best(8, 3)", x.best(8, 3), 39);
        Due.due("best(8, 1)", x.best(8, 1), plain.best(8, 1));
        Due.due("no sum was made", x.about(0), 0);
        lightest(x);
    }

    private static void promise32() {
        SumSmith x = smith(8, 29, false, true);
        x.divided(8, 29, 0, 0, false, false);
        for (int i = 0; i < 20; i++) {
            x.put(i * 13);
        }
        long right = x.sum(0);
        Due.due("nothing is wrong", x.mend(0, right), 0);
        for (int place = 0; place < 160; place += 3) {
            int was = x.at(place / 8);
            x.set(place / 8, was ^ 128 >> place % 8);
            Due.due("mend place " + place, x.mend(0, right), 1 + place);
            Due.due("byte " + place / 8, x.at(place / 8), was);
        }
        for (int bit = 0; bit < 8; bit++) {
            Due.due("mend bit " + bit, x.mend(0, right ^ 1 << bit), 1000 + bit);
        }
        Due.due("the row is right", x.sum(0), right);
        Due.due("mend, s 256", x.mend(0, 256), SumSmith.OUTSIDE);
        Due.due("mend, s -1", x.mend(0, -1), SumSmith.OUTSIDE);
        Due.due("mend, plain", x.mend(1, -1), SumSmith.KIND);
        Due.due("mend, divided", x.mend(2, -1), SumSmith.KIND);
        Due.due("mend(3)", x.mend(3, -1), SumSmith.UNKNOWN);
    }

    private static void mendOddSums() {
        SumSmith x = smith(4, 3, false, true);
        Due.due("no row, nothing is wrong", x.mend(0, 0), 0);
        Due.due("no row, bit 3", x.mend(0, 8), 1003);
        Due.due("no row, two bits", x.mend(0, 9), SumSmith.NONE);
        for (int i = 0; i < 4; i++) {
            x.put(0);
        }
        // period 15 in 32 places: each syndrome has several places, and those with one bit have some
        Due.due("the first of several", x.mend(0, x.syndrome(0, 31, 4)), 2);
        Due.due("place 1", x.at(0), 64);
        x.set(0, 0);
        Due.due("one bit, but a place has it", x.mend(0, 8), 1 + placeOf(x, 8));
        SumSmith y = smith(8, 29, false, true);
        y.put(0);
        Due.due("can't be mended", y.mend(0, 0x81), SumSmith.NONE);
        Due.due("and is not", y.at(0), 0);
        y.put(0);
        y.mend(0, 0);
        Due.due("nothing to turn but bits of s", y.mend(0, 1), 1000);
        y.cut(1);
        Due.due("a place that is no more", y.mend(0, y.syndrome(0, 0, 2)), SumSmith.NONE);
        SumSmith full = smith(32, 0x04C11DB7L, false, true);
        for (int i = 0; i < 64; i++) {
            full.put(i);
        }
        Due.due("64 bytes, can't be mended", full.mend(0, full.sum(0) ^ 5), SumSmith.NONE);
        Due.due("64 bytes, the last place", full.mend(0, full.sum(0) ^ 0x04C11DB7L), 512);
        SumSmith z = smith(32, 0x04C11DB7L, true, true);
        z.put(1);
        Due.due("the highest bit of 32", z.mend(0, z.sum(0) ^ 1L << 31), 1031);
        Due.due("low place", z.mend(0, z.sum(0) ^ 0x04C11DB7L), 1);
        Due.due("low byte", z.at(0), 129);
    }

    private static int placeOf(SumSmith x, long syndrome) {
        int place = 0;
        while (place < 31 && x.syndrome(0, place, 4) != syndrome) {
            place++;
        }
        return place;
    }

    private static void promise33() {
        SumSmith x = smith(8, 7, false, true);
        x.divided(8, 7, 0, 0, false, false);
        x.divided(16, 0x1021, 9, 9, true, true);
        x.divided(8, 1, 0, 0, false, true);
        x.divided(8, 0, 0, 0, false, true);
        x.divided(8, 0x1D, 0, 0, true, true);
        x.divided(3, 3, 0, 0, false, true);
        x.divided(32, 0x04C11DB7L, 0, 0, false, true);
        Due.due("reach of 7", x.reach(0), 14);
        Due.due("reach of 16 bits", x.reach(3), 64);
        Due.due("reach, one bit", x.reach(4), 0);
        Due.due("reach, no bit", x.reach(5), 0);
        Due.due("reach of 29", x.reach(6), 30);
        Due.due("reach of 3 bits", x.reach(7), 0);
        Due.due("reach of 32 bits", x.reach(8), 64);
        Due.due("reach, plain", x.reach(1), SumSmith.KIND);
        Due.due("reach, divided", x.reach(2), SumSmith.KIND);
        Due.due("reach(9)", x.reach(9), SumSmith.UNKNOWN);
    }
}
