/** Promises 22 to 26 and 31: every sentence that names a boundary case, one by one. */
public final class DividedEdgesTest {
    private static final int[] NO_SUMS = {-1, States.NO_SUM, 16, Integer.MIN_VALUE, Integer.MAX_VALUE};
    private static final int[] NOT_DIVIDED = {States.PLAIN, States.TWOFOLD, States.TWO_WEIGHTS, States.ONE_WEIGHT,
        States.TURNING, States.SQUARE};

    /** Of period 47, and no four places of 47 or less come to 0. */
    private static final int GOLD_BITS = 23, GOLD = 0xC76EF;

    public static void main(String[] args) {
        syndromeTakes1To64Bytes();
        syndromeTakesPlacesOfTheRow();
        syndromeIsTheSameForAllRows();
        syndromeRefusesInOrder();
        weightTakes1To6Bytes();
        weightIsTheLeast();
        weightNone();
        weightRefusesInOrder();
        lightestTakes0To3();
        lightestBeforeAnyWeight();
        lightestAreTheFirst();
        lightestForFewerBytesBehindMore();
        lightestOfTheLatestThatToldOne();
        countTakes1To4Places();
        countTakes1To6Bytes();
        countOfAllAndOfNone();
        countOfManySets();
        oneSetAtTheLastPlace();
        countRefusesInOrder();
        periodUpTo65535();
        periodNone();
        periodRefusesInOrder();
        bestTakes3To8BitsAnd1To3Bytes();
        bestOfNoneUpTo4();
        bestByTheCountThenTheLeast();
        Due.end();
    }

    private static SumSmith of(int n, long p, boolean low, boolean mends) {
        SumSmith x = new SumSmith();
        x.divided(n, p, 0, 0, low, mends);
        return x;
    }

    private static SumSmith of(int n, long p) {
        return of(n, p, false, false);
    }

    private static void lightestDue(SumSmith x, int... places) {
        for (int i = 0; i < 4; i++) {
            Due.due("lightest(" + i + ")", x.lightest(i), i < places.length ? places[i] : SumSmith.NONE);
        }
    }

    // ---- promise 22

    private static void syndromeTakes1To64Bytes() {
        Due.promise(22, "for rows of n bytes (1 .. 64). -3 OUTSIDE: n");
        SumSmith x = of(8, 7);
        Due.due("n 1", x.syndrome(0, 7, 1), 7);
        Due.due("n 64", x.syndrome(0, 511, 64), 7);
        Due.due("n 64, the first place", of(3, 3).syndrome(0, 0, 64), 3);
        for (int n : new int[] {0, -1, 65, Integer.MIN_VALUE, Integer.MAX_VALUE, 1 << 29}) {
            Refused.due("n " + n, States::some, y -> y.syndrome(States.DIVIDED, 0, n), SumSmith.OUTSIDE);
        }
        Refused.changesNothing("syndrome", States::some, y -> y.syndrome(States.MENDING, 511, 64));
    }

    private static void syndromeTakesPlacesOfTheRow() {
        Due.promise(22, "at a PLACE. -3 OUTSIDE: PLACE");
        for (int n : new int[] {1, 2, 63, 64}) {
            Due.due("place 8 n - 1 of " + n, of(8, 7).syndrome(0, 8 * n - 1, n), 7);
            Due.due("place 8 n - 8 of " + n + ", low", of(8, 7, true, true).syndrome(0, 8 * n - 8, n), 7);
            Due.due("place 0 of " + n, Math.min(0, of(8, 7).syndrome(0, 0, n)), 0);
            for (int place : new int[] {-1, 8 * n, 8 * n + 1, Integer.MIN_VALUE, Integer.MAX_VALUE}) {
                Refused.due("place " + place + " of " + n, States::some, x -> x.syndrome(States.DIVIDED, place, n),
                    SumSmith.OUTSIDE);
            }
        }
    }

    private static void syndromeIsTheSameForAllRows() {
        Due.terms("its SYNDROME at a PLACE is .. the same for all rows. PLACE 8 i + j is the bit of byte i .. 128 >> j");
        SumSmith x = States.eightSums();
        int[][] rows = {{0, 0, 0}, {255, 255, 255}, {1, 128, 77}};
        for (int k : new int[] {States.DIVIDED, States.MENDING}) {
            for (int[] row : rows) {
                for (int place : new int[] {0, 7, 8, 15, 16, 23}) {
                    int[] turned = row.clone();
                    turned[place / 8] ^= 128 >> place % 8;
                    Due.due("syndrome(" + k + ", " + place + ", 3)", x.syndrome(k, place, 3),
                        States.sumOf(x, k, row) ^ States.sumOf(x, k, turned));
                }
            }
        }
    }

    private static void syndromeRefusesInOrder() {
        Due.promise(22, "-2 UNKNOWN; -4 KIND; -3 OUTSIDE");
        Refused.due("syndrome(0) of none", States::fresh, x -> x.syndrome(0, 0, 1), -2);
        for (int k : NO_SUMS) {
            Refused.due("syndrome(" + k + ")", States::some, x -> x.syndrome(k, 0, 1), -2);
            Refused.due("syndrome(" + k + "), OUTSIDE", States::some, x -> x.syndrome(k, -1, 65), -2);
        }
        for (int k : NOT_DIVIDED) {
            Refused.due("syndrome(" + k + ")", States::some, x -> x.syndrome(k, 0, 1), -4);
            Refused.due("syndrome(" + k + "), OUTSIDE", States::some, x -> x.syndrome(k, 8, 0), -4);
        }
        Refused.due("syndrome, OUTSIDE", States::some, x -> x.syndrome(States.MENDING, 8, 1), -3);
    }

    // ---- promise 23

    private static void weightTakes1To6Bytes() {
        Due.promise(23, "WEIGHT for n bytes (1 .. 6). OUTSIDE");
        Due.due("n 1", of(3, 0).weight(0, 1), 1);
        Due.due("n 6", of(3, 0).weight(0, 6), 1);
        // places 0 and 47 alone are alike
        Due.due("n 5 of period 47", of(GOLD_BITS, GOLD).weight(0, 5), SumSmith.NONE);
        Due.due("n 6 of period 47", of(GOLD_BITS, GOLD).weight(0, 6), 2);
        for (int n : new int[] {0, -1, 7, Integer.MIN_VALUE, Integer.MAX_VALUE}) {
            Refused.due("n " + n, States::some, x -> x.weight(States.DIVIDED, n), SumSmith.OUTSIDE);
        }
    }

    private static void weightIsTheLeast() {
        Due.terms("WEIGHT: the least k, 1 .. 4, so that some k PLACES have SYNDROMES that come to 0");
        Due.due("1, and all else, too", of(3, 0).weight(0, 1), 1);
        Due.due("2, and 3, too", of(3, 3).weight(0, 1), 2);
        Due.due("3", of(4, 3).weight(0, 1), 3);
        Due.due("3, and 2 from 16 places on", of(4, 3).weight(0, 2), 2);
        Due.due("4", of(7, 11).weight(0, 1), 4);
        Due.due("5 is none", of(7, 15).weight(0, 1), SumSmith.NONE);
        Due.due("mending ones, low", of(4, 3, true, true).weight(0, 1), 3);
    }

    private static void weightNone() {
        Due.promise(23, "NONE: there is none up to 4");
        // of 8 bits all 8 places of a byte are free of one another
        Due.due("8 bits, 8 places", of(8, 1).weight(0, 1), SumSmith.NONE);
        Due.due("32 bits, 48 places", of(32, 0x04C11DB7L).weight(0, 6), SumSmith.NONE);
        Refused.due("weight, NONE", States::some, x -> x.weight(States.MENDING, 6), SumSmith.NONE);
    }

    private static void weightRefusesInOrder() {
        Due.promise(23, "UNKNOWN; KIND; OUTSIDE");
        Refused.due("weight(0) of none", States::fresh, x -> x.weight(0, 1), SumSmith.UNKNOWN);
        for (int k : NO_SUMS) {
            Refused.due("weight(" + k + ")", States::some, x -> x.weight(k, 1), SumSmith.UNKNOWN);
            Refused.due("weight(" + k + "), OUTSIDE", States::some, x -> x.weight(k, 0), SumSmith.UNKNOWN);
        }
        for (int k : NOT_DIVIDED) {
            Refused.due("weight(" + k + ")", States::some, x -> x.weight(k, 1), SumSmith.KIND);
            Refused.due("weight(" + k + "), OUTSIDE", States::some, x -> x.weight(k, 7), SumSmith.KIND);
        }
    }

    // ---- promise 24

    private static void lightestTakes0To3() {
        Due.promise(24, "LIGHTEST PLACE i (0 .. 3). OUTSIDE");
        SumSmith x = of(7, 11);
        x.weight(0, 1);
        // the polynomial itself: x^7 + x^3 + x + 1
        lightestDue(x, 0, 4, 6, 7);
        for (int i : new int[] {-1, 4, Integer.MIN_VALUE, Integer.MAX_VALUE}) {
            Refused.due("lightest(" + i + ")", States::some, y -> y.lightest(i), SumSmith.OUTSIDE);
            Refused.due("lightest(" + i + "), none told", States::fresh, y -> y.lightest(i), SumSmith.OUTSIDE);
        }
        Refused.changesNothing("lightest(3)", States::some, y -> y.lightest(3));
    }

    private static void lightestBeforeAnyWeight() {
        Due.promise(24, "NONE");
        lightestDue(new SumSmith());
        SumSmith x = of(32, 0x04C11DB7L);
        x.weight(0, 6);
        lightestDue(x);
        SumSmith y = of(3, 0);
        y.weight(0, 6);
        lightestDue(y, 0);
        SumSmith z = of(3, 3);
        z.weight(0, 6);
        lightestDue(z, 0, 7);
        SumSmith three = of(4, 3);
        three.weight(0, 1);
        lightestDue(three, 0, 3, 4);
    }

    private static void lightestAreTheFirst() {
        Due.terms("LIGHTEST PLACES are the first such k, rising, by the first, then the second, ..");
        SumSmith last = of(GOLD_BITS, GOLD);
        last.weight(0, 6);
        lightestDue(last, 0, 47);
        SumSmith low = of(GOLD_BITS, GOLD, true, false);
        low.weight(0, 6);
        // the lowest bit of each byte first: what is taken first is place 7, what is taken last place 40
        lightestDue(low, 7, 40);
        SumSmith byTheThird = of(8, 7);
        byTheThird.weight(0, 2);
        // x + 1 times it, x^9 + x^8 + x^3 + 1, begins with 0, 1; it itself with 0, 6
        lightestDue(byTheThird, 0, 1, 6, 9);
    }

    private static void lightestForFewerBytesBehindMore() {
        Due.terms("WEIGHT for n bytes; its LIGHTEST PLACES (nothing is left of more bytes)");
        for (int p = 1; p < 128; p += 2) {
            for (int n = 1; n <= 5; n++) {
                SumSmith x = of(7, p);
                x.divided(7, p ^ 2, 0, 0, true, false);
                x.weight(1, 6);
                SumSmith alone = of(7, p);
                Due.due("weight of " + p + " for " + n, x.weight(0, n), alone.weight(0, n));
                for (int i = 0; i < 4 && alone.lightest(0) != SumSmith.NONE; i++) {
                    Due.due("lightest(" + i + ") of " + p + " for " + n, x.lightest(i), alone.lightest(i));
                }
            }
        }
    }

    private static void lightestOfTheLatestThatToldOne() {
        Due.promise(24, "of the latest weight() that told one");
        SumSmith x = of(7, 11);
        x.divided(3, 3, 0, 0, false, false);
        x.divided(32, 0x04C11DB7L, 0, 0, false, false);
        x.weight(0, 1);
        lightestDue(x, 0, 4, 6, 7);
        x.weight(1, 1);
        lightestDue(x, 0, 7);
        Due.due("one that told none", x.weight(2, 6), SumSmith.NONE);
        lightestDue(x, 0, 7);
        Due.due("one that is refused", x.weight(0, 7), SumSmith.OUTSIDE);
        lightestDue(x, 0, 7);
        x.count(0, 4, 1);
        x.best(3, 1);
        lightestDue(x, 0, 7);
    }

    // ---- promise 25

    private static void countTakes1To4Places() {
        Due.promise(25, "COUNT of sets of so many PLACES (1 .. 4). OUTSIDE");
        int[] all = {8, 28, 56, 70};
        for (int bits = 1; bits <= 4; bits++) {
            Due.due("bits " + bits, of(3, 0).count(0, bits, 1), all[bits - 1]);
        }
        for (int bits : new int[] {0, -1, 5, Integer.MIN_VALUE, Integer.MAX_VALUE}) {
            Refused.due("bits " + bits, States::some, x -> x.count(States.DIVIDED, bits, 1), SumSmith.OUTSIDE);
        }
        Refused.changesNothing("count", States::some, x -> x.count(States.DIVIDED, 4, 6));
    }

    private static void countTakes1To6Bytes() {
        Due.promise(25, "for n bytes (1 .. 6). OUTSIDE");
        for (int n = 1; n <= 6; n++) {
            Due.due("n " + n, of(3, 0).count(0, 1, n), 8 * n);
        }
        Due.due("the last place of 5 bytes", of(GOLD_BITS, GOLD).count(0, 2, 5), 0);
        Due.due("the last place of 6 bytes", of(GOLD_BITS, GOLD).count(0, 2, 6), 1);
        for (int n : new int[] {0, -1, 7, Integer.MIN_VALUE, Integer.MAX_VALUE}) {
            Refused.due("n " + n, States::some, x -> x.count(States.DIVIDED, 1, n), SumSmith.OUTSIDE);
        }
    }

    private static void countOfAllAndOfNone() {
        Due.promise(25, "COUNT (all there can be, and none)");
        int[] all = {48, 1128, 17296, 194580};
        for (int bits = 1; bits <= 4; bits++) {
            Due.due("all sets of " + bits, of(3, 0).count(0, bits, 6), all[bits - 1]);
            Due.due("no sets of " + bits, of(32, 0x04C11DB7L).count(0, bits, 6), 0);
            Due.due("no sets of " + bits + " in 5 bytes", of(GOLD_BITS, GOLD).count(0, bits, 5), 0);
        }
        // the 7 points of a plane, one of them twice: its 7 lines, its 7 sets of four, and those through that point again
        int[] period7 = {0, 1, 7 + 3, 7 + 4};
        SumSmith x = of(3, 3);
        for (int bits : new int[] {1, 2, 3, 4, 4, 3, 2, 1, 3, 4}) {
            Due.due("period 7, sets of " + bits, x.count(0, bits, 1), period7[bits - 1]);
        }
        Due.due("count of a weight of 4", of(7, 11).count(0, 4, 1), 1);
        Due.due("count below a weight of 4", of(7, 11).count(0, 3, 1), 0);
    }

    private static void countOfManySets() {
        Due.promise(25, "COUNT, how many such sets of k PLACES there are (as found one by one)");
        SumSmith x = new SumSmith();
        PlainSmith plain = new PlainSmith();
        int[] bits = {9, 10, 12, 16};
        long[] polynomials = {0x11, 0x9, 0x80F, 0x1021};
        for (int k = 0; k < bits.length; k++) {
            x.divided(bits[k], polynomials[k], 0, 0, k % 2 == 0, false);
            plain.divided(bits[k], polynomials[k], 0, 0, k % 2 == 0, false);
        }
        for (int k = 0; k < bits.length; k++) {
            for (int size = 1; size <= 4; size++) {
                Due.due("count(" + k + ", " + size + ", 6)", x.count(k, size, 6), plain.count(k, size, 6));
            }
        }
    }

    private static void oneSetAtTheLastPlace() {
        Due.promise(23, "WEIGHT, LIGHTEST PLACES, COUNT for n bytes (.. 6) (where the 48th PLACE is in the only set)");
        int[] bits = {GOLD_BITS, 29, 28};
        long[] polynomials = {GOLD, 0x162C3EC1L, 0xBCD7601L};
        int[][] sets = {{0, 47}, {0, 44, 47}, {0, 45, 46, 47}};
        for (int j = 0; j < sets.length; j++) {
            SumSmith x = of(bits[j], polynomials[j]);
            int size = sets[j].length;
            Due.due("weight for 5 bytes", x.weight(0, 5), SumSmith.NONE);
            Due.due("weight for 6 bytes", x.weight(0, 6), size);
            lightestDue(x, sets[j]);
            Due.due("count for 5 bytes", x.count(0, size, 5), 0);
            Due.due("count for 6 bytes", x.count(0, size, 6), 1);
        }
    }

    private static void countRefusesInOrder() {
        Due.promise(25, "UNKNOWN; KIND; OUTSIDE");
        Refused.due("count(0) of none", States::fresh, x -> x.count(0, 1, 1), SumSmith.UNKNOWN);
        for (int k : NO_SUMS) {
            Refused.due("count(" + k + ")", States::some, x -> x.count(k, 1, 1), SumSmith.UNKNOWN);
            Refused.due("count(" + k + "), OUTSIDE", States::some, x -> x.count(k, 0, 7), SumSmith.UNKNOWN);
        }
        for (int k : NOT_DIVIDED) {
            Refused.due("count(" + k + ")", States::some, x -> x.count(k, 1, 1), SumSmith.KIND);
            Refused.due("count(" + k + "), OUTSIDE", States::some, x -> x.count(k, 5, 0), SumSmith.KIND);
        }
    }

    // ---- promise 26

    private static void periodUpTo65535() {
        Due.promise(26, "PERIOD (65535 at most)");
        Due.due("x^3 + 1, the least there is", of(3, 1).period(0), 3);
        Due.due("x^32 + 1", of(32, 1).period(0), 32);
        Due.due("x^3 + x + 1", of(3, 3).period(0), 7);
        Due.due("a primitive one of 15 bits", of(15, 3).period(0), 32767);
        Due.due("a primitive one of 16 bits", of(16, 0x2D).period(0), 65535);
        Due.due("of one of 32 bits, 65537", of(32, 0xB44D645BL).period(0), SumSmith.NONE);
        Due.due("a primitive one of 17 bits", of(17, 9).period(0), SumSmith.NONE);
        SumSmith x = new SumSmith();
        x.divided(16, 0x2D, 0xFFFF, 0xFFFF, true, true);
        Due.due("mending, low, begin and finish", x.period(0), 65535);
    }

    private static void periodNone() {
        Due.promise(26, "NONE: S is never 1 within 65535");
        Due.due("p 0", of(3, 0).period(0), SumSmith.NONE);
        Due.due("p 0 of 32 bits", of(32, 0).period(0), SumSmith.NONE);
        Due.due("an even p", of(3, 6).period(0), SumSmith.NONE);
        Due.due("an even p of 32 bits", of(32, 0xFFFFFFFEL).period(0), SumSmith.NONE);
        Refused.due("period, NONE", States::some, x -> x.period(States.MENDING), SumSmith.NONE);
        Refused.changesNothing("period", States::some, x -> x.period(States.DIVIDED));
    }

    private static void periodRefusesInOrder() {
        Due.promise(26, "UNKNOWN; KIND");
        Refused.due("period(0) of none", States::fresh, x -> x.period(0), SumSmith.UNKNOWN);
        for (int k : NO_SUMS) {
            Refused.due("period(" + k + ")", States::some, x -> x.period(k), SumSmith.UNKNOWN);
        }
        for (int k : NOT_DIVIDED) {
            Refused.due("period(" + k + ")", States::some, x -> x.period(k), SumSmith.KIND);
        }
    }

    // ---- promise 31

    private static void bestTakes3To8BitsAnd1To3Bytes() {
        Due.promise(31, "BEST of n bits (3 .. 8) for k bytes (1 .. 3): its p. OUTSIDE");
        PlainSmith plain = new PlainSmith();
        for (int n = 3; n <= 8; n++) {
            for (int k = 1; k <= 3; k++) {
                Due.due("best(" + n + ", " + k + ")", new SumSmith().best(n, k), plain.best(n, k));
            }
        }
        for (int wrong : new int[] {0, -1, 9, Integer.MIN_VALUE, Integer.MAX_VALUE}) {
            Refused.due("best(" + wrong + ", 1)", States::some, x -> x.best(wrong, 1), SumSmith.OUTSIDE);
            Refused.due("best(3, " + wrong + ")", States::some, x -> x.best(3, wrong), SumSmith.OUTSIDE);
        }
        Refused.due("best(2, 1)", States::some, x -> x.best(2, 1), SumSmith.OUTSIDE);
        Refused.due("best(8, 4)", States::some, x -> x.best(8, 4), SumSmith.OUTSIDE);
        Refused.due("best(2, 4)", States::fresh, x -> x.best(2, 4), SumSmith.OUTSIDE);
        Refused.changesNothing("best(8, 3)", States::some, x -> x.best(8, 3));
        Due.due("best(8, 3), 16 sums", States.full().best(8, 3), 39);
    }

    private static void bestOfNoneUpTo4() {
        Due.terms("BEST: none up to 4 is greater than any; of several the least p");
        // any odd p of 8 bits keeps 8 places free of one another
        Due.due("best(8, 1)", new SumSmith().best(8, 1), 1);
        // of 7 bits only the polynomial itself comes to 0: the least one of five terms
        Due.due("best(7, 1)", new SumSmith().best(7, 1), 0b1111);
        // of 6 bits also x + 1 times it, which has six terms if its two 0s stand apart
        Due.due("best(6, 1)", new SumSmith().best(6, 1), 0b10111);
    }

    private static void bestByTheCountThenTheLeast() {
        Due.terms("BEST: the one with the greatest WEIGHT; of several with the least COUNT; of several the least p");
        for (int n = 3; n <= 8; n++) {
            for (int k = 1; k <= 3; k++) {
                int best = new SumSmith().best(n, k);
                long bestRank = rankOf(n, best, k);
                for (int p = 1; p < 1 << n; p += 2) {
                    long rank = rankOf(n, p, k);
                    boolean worse = rank < bestRank || rank == bestRank && p >= best;
                    Due.due("p " + p + " of " + n + " bits, " + k + " bytes, is no better (1)", worse ? 1 : 0, 1);
                }
            }
        }
    }

    /** The greater the better. */
    private static long rankOf(int n, int p, int k) {
        SumSmith x = of(n, p);
        int weight = x.weight(0, k);
        return weight == SumSmith.NONE ? Long.MAX_VALUE : 1000000L * weight - x.count(0, weight, k);
    }
}
