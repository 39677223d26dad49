/** Promises 32 and 33: every sentence that names a boundary case, one by one. */
public final class MendEdgesTest {
    private static final int[] NO_SUMS = {-1, States.NO_SUM, 16, Integer.MIN_VALUE, Integer.MAX_VALUE};
    private static final int[] NOT_MENDING = {States.PLAIN, States.TWOFOLD, States.TWO_WEIGHTS, States.ONE_WEIGHT,
        States.TURNING, States.DIVIDED, States.SQUARE};

    public static void main(String[] args) {
        mendTakesSumsOfNBits();
        mendWhereNothingIsWrong();
        mendTurnsTheFirstPlace();
        mendTurnsAtTheEnds();
        mendTurnsAPlaceAheadOfABitOfS();
        mendFindsTheWrongBitOfS();
        mendThatCannotBe();
        mendOfNoRow();
        mendRefusesInOrder();
        reachNone();
        reachBetween();
        reach64();
        reachHangsOnThePolynomialAlone();
        reachRefusesInOrder();
        Due.end();
    }

    private static SumSmith of(int n, long p, int bytes) {
        SumSmith x = new SumSmith();
        x.divided(n, p, 0, 0, false, true);
        for (int i = 0; i < bytes; i++) {
            x.put(0);
        }
        return x;
    }

    // ---- promise 32

    private static void mendTakesSumsOfNBits() {
        Due.promise(32, "OUTSIDE: s");
        Due.due("s 0 of 3 bits", of(3, 3, 0).mend(0, 0), 0);
        Due.due("s 7 of 3 bits", of(3, 3, 0).mend(0, 7), SumSmith.NONE);
        Due.due("s 8 of 3 bits", of(3, 3, 0).mend(0, 8), SumSmith.OUTSIDE);
        for (long s : new long[] {1L << 32, -1, Long.MIN_VALUE, Long.MAX_VALUE, Integer.MIN_VALUE}) {
            Refused.due("s " + s + " of 32 bits", States::some, x -> x.mend(States.MENDING, s), SumSmith.OUTSIDE);
        }
        SumSmith x = new SumSmith();
        x.divided(32, 0x04C11DB7L, 0xFFFFFFFFL, 0, false, true);
        Due.due("s 2^32 - 1, which is the sum", x.mend(0, (1L << 32) - 1), 0);
    }

    private static void mendWhereNothingIsWrong() {
        Due.promise(32, "0 nothing is wrong");
        Refused.due("its own sum", States::some, x -> x.mend(States.MENDING, sumOfSome()), 0);
        // p 0: every syndrome is 0, but a 0 is never searched for
        Refused.due("p 0", () -> of(3, 0, 2), x -> x.mend(0, 0), 0);
    }

    private static long sumOfSome() {
        return States.some().sum(States.MENDING);
    }

    private static void mendTurnsTheFirstPlace() {
        Due.promise(32, "1 and the PLACE that was turned: the first PLACE of THE ROW whose SYNDROME is d");
        // of period 7: places 1, 8 and 15 of two bytes are alike
        SumSmith x = of(3, 3, 2);
        Due.due("the first of three", x.mend(0, 3), 2);
        Due.due("byte 0", x.at(0), 64);
        Due.due("byte 1", x.at(1), 0);
        Due.due("it has the sum now", x.sum(0), 3);
        Due.due("turned back", x.mend(0, 0), 2);
        Due.due("byte 0 again", x.at(0), 0);
        SumSmith low = new SumSmith();
        low.divided(3, 3, 0, 0, true, true);
        States.put(low, 0, 0);
        // the lowest bit of a byte first: alike are the 2nd, the 9th and the 16th one, places 6, 15 and 8
        Due.due("the first of three, low", low.mend(0, 3), 7);
        Due.due("byte 0, low", low.at(0), 2);
    }

    private static void mendTurnsAtTheEnds() {
        Due.promise(32, "1 and the PLACE (the first and the last one of 64 bytes)");
        SumSmith x = of(32, 0x04C11DB7L, 64);
        Due.due("place 0", x.mend(0, x.syndrome(0, 0, 64)), 1);
        Due.due("byte 0", x.at(0), 128);
        Due.due("place 511", x.mend(0, x.sum(0) ^ x.syndrome(0, 511, 64)), 512);
        Due.due("byte 63", x.at(63), 1);
        Due.due("place 511 again", x.mend(0, x.sum(0) ^ x.syndrome(0, 511, 64)), 512);
        Due.due("byte 63 again", x.at(63), 0);
        x.cut(63);
        long syndrome = x.syndrome(0, 0, 64);
        Refused.due("a place of 64 bytes, of 63", () -> of(32, 0x04C11DB7L, 63), y -> y.mend(0, syndrome), SumSmith.NONE);
    }

    private static void mendTurnsAPlaceAheadOfABitOfS() {
        Due.promise(32, "Else the first PLACE; where there is none and d has just one bit");
        // of period 7, 8 places: every number of 3 bits but 0 is a syndrome
        for (long d = 1; d <= 7; d++) {
            SumSmith x = of(3, 3, 1);
            int turned = x.mend(0, d);
            Due.due("d " + d + " is a place's (1)", turned >= 1 && turned <= 8 ? 1 : 0, 1);
            Due.due("d " + d + ", the sum now", x.sum(0), d);
        }
    }

    private static void mendFindsTheWrongBitOfS() {
        Due.promise(32, "1000 and the bit of s that is wrong (0 the lowest)");
        for (int n : new int[] {3, 8, 32}) {
            for (int bit : new int[] {0, 1, n - 1}) {
                long s = 1L << bit;
                Refused.due("bit " + bit + " of " + n, () -> of(n, 3, 0), x -> x.mend(0, s), 1000 + bit);
            }
        }
        for (int bit = 0; bit < 32; bit++) {
            long s = sumOfSome() ^ 1L << bit;
            int want = 1000 + bit;
            Refused.due("bit " + bit + " of some", States::some, x -> x.mend(States.MENDING, s), want);
        }
    }

    private static void mendThatCannotBe() {
        Due.promise(32, "NONE: it can't be");
        Refused.due("two bits", States::some, x -> x.mend(States.MENDING, sumOfSome() ^ 3), SumSmith.NONE);
        Refused.due("all bits", States::some, x -> x.mend(States.MENDING, sumOfSome() ^ 0xFFFFFFFFL), SumSmith.NONE);
        Refused.due("p 0, two bits", () -> of(3, 0, 64), x -> x.mend(0, 6), SumSmith.NONE);
    }

    private static void mendOfNoRow() {
        Due.promise(32, "MENDS THE ROW (that is empty)");
        SumSmith x = of(8, 7, 0);
        Due.due("its sum", x.mend(0, 0), 0);
        Due.due("a syndrome of no place", x.mend(0, 7), SumSmith.NONE);
        Due.due("one bit", x.mend(0, 128), 1007);
        Due.due("bytes", x.about(1), 0);
    }

    private static void mendRefusesInOrder() {
        Due.promise(32, "UNKNOWN; KIND: it is not MENDING; OUTSIDE: s");
        Refused.due("mend(0) of none", States::fresh, x -> x.mend(0, 0), SumSmith.UNKNOWN);
        for (int k : NO_SUMS) {
            Refused.due("mend(" + k + ", 0)", States::some, x -> x.mend(k, 0), SumSmith.UNKNOWN);
            Refused.due("mend(" + k + ", -1)", States::some, x -> x.mend(k, -1), SumSmith.UNKNOWN);
        }
        for (int k : NOT_MENDING) {
            Refused.due("mend(" + k + ", 0)", States::some, x -> x.mend(k, 0), SumSmith.KIND);
            Refused.due("mend(" + k + ", -1)", States::some, x -> x.mend(k, -1), SumSmith.KIND);
        }
    }

    // ---- promise 33

    private static void reachNone() {
        Due.promise(33, "REACH: 0 ..");
        Due.due("p 0: no bit", of(8, 0, 0).reach(0), 0);
        Due.due("p 1: one bit", of(8, 1, 0).reach(0), 0);
        Due.due("p 128: one bit", of(8, 128, 0).reach(0), 0);
        Due.due("of period 7: four places", of(3, 3, 0).reach(0), 0);
        Due.due("an even p", of(4, 6, 0).reach(0), 0);
    }

    /** Of an odd p of n bits just period - n places, from the last one on, are unlike and have more than one bit. */
    private static void reachBetween() {
        Due.promise(33, "the greatest n, so that all SYNDROMES are unlike, and have more than one bit");
        Due.due("15 - 4 places", of(4, 3, 0).reach(0), 1);
        Due.due("31 - 5 places", of(5, 5, 0).reach(0), 3);
        Due.due("63 - 6 places", of(6, 3, 0).reach(0), 7);
        Due.due("127 - 7 places", of(7, 3, 0).reach(0), 15);
        Due.due("127 - 8 places", of(8, 7, 0).reach(0), 14);
        Due.due("47 - 23 places, just three bytes", of(23, 0xC76EF, 0).reach(0), 3);
        Due.due("511 - 9 places", of(9, 0x11, 0).reach(0), 62);
        Due.due("527 - 18 places", of(18, 92853, 0).reach(0), 63);
    }

    private static void reach64() {
        Due.promise(33, "REACH: .. 64");
        Due.due("527 - 13 places", of(13, 765, 0).reach(0), 64);
        Due.due("1023 - 10 places", of(10, 9, 0).reach(0), 64);
        Due.due("32 bits", of(32, 0x04C11DB7L, 0).reach(0), 64);
    }

    private static void reachHangsOnThePolynomialAlone() {
        Due.promise(33, "REACH (whatever begin, finish, THE ROW, and the bits' order)");
        SumSmith x = new SumSmith();
        x.divided(8, 7, 255, 129, true, true);
        x.divided(8, 7, 1, 0, false, true);
        Due.due("low", x.reach(0), 14);
        Due.due("begin", x.reach(1), 14);
        Due.due("64 bytes", of(8, 7, 64).reach(0), 14);
        Refused.changesNothing("reach", States::some, y -> y.reach(States.MENDING));
    }

    private static void reachRefusesInOrder() {
        Due.promise(33, "UNKNOWN; KIND: it is not MENDING");
        Refused.due("reach(0) of none", States::fresh, x -> x.reach(0), SumSmith.UNKNOWN);
        for (int k : NO_SUMS) {
            Refused.due("reach(" + k + ")", States::some, x -> x.reach(k), SumSmith.UNKNOWN);
        }
        for (int k : NOT_MENDING) {
            Refused.due("reach(" + k + ")", States::some, x -> x.reach(k), SumSmith.KIND);
        }
    }
}
