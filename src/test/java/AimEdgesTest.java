/** Promises 27 to 30: every sentence that names a boundary case, one by one. */
public final class AimEdgesTest {
    public static void main(String[] args) {
        freeTakesPlacesOfTheRow();
        freeTakesNoPlaceTwice();
        freeIsFullAt16();
        bindOfNoneAndOfAll();
        bindKeepsTheWays();
        aimWithoutPlaces();
        aimAtSumsOfNBits();
        aimWithPlacesThatAreNoMore();
        aimWith16Places();
        aimTurnsNothing();
        aimRefusesInOrder();
        wayBeforeAnyAim();
        waysRise();
        wayKeepsTheFirst64();
        wayOfTheLatestAim();
        Due.end();
    }

    /** A sum of 3 bits by p, and a row of so many bytes, all 0. */
    private static SumSmith of(long p, int bytes) {
        SumSmith x = new SumSmith();
        x.divided(3, p, 0, 0, false, false);
        for (int i = 0; i < bytes; i++) {
            x.put(0);
        }
        return x;
    }

    private static void waysDue(SumSmith x, int... ways) {
        for (int i = 0; i < ways.length; i++) {
            Due.due("way(" + i + ")", x.way(i), ways[i]);
        }
        Due.due("way(" + ways.length + ")", x.way(ways.length), SumSmith.NONE);
    }

    // ---- promise 27

    private static void freeTakesPlacesOfTheRow() {
        Due.promise(27, "A PLACE more for aim(): how many. OUTSIDE: it is no PLACE of THE ROW");
        SumSmith x = of(3, 2);
        Due.due("free(0) of 2 bytes", x.free(0), 1);
        Due.due("free(15) of 2 bytes", x.free(15), 2);
        Due.due("free(16) of 2 bytes", x.free(16), SumSmith.OUTSIDE);
        x.put(0);
        Due.due("free(16) of 3 bytes", x.free(16), 3);
        for (int place : new int[] {-1, 24, 25, 512, Integer.MIN_VALUE, Integer.MAX_VALUE}) {
            Refused.due("free(" + place + ") of 3 bytes", States::some, y -> y.free(place), SumSmith.OUTSIDE);
        }
        for (int place : new int[] {0, -1, 1, Integer.MIN_VALUE, Integer.MAX_VALUE}) {
            Refused.due("free(" + place + ") of no bytes", States::fresh, y -> y.free(place), SumSmith.OUTSIDE);
        }
        Due.due("free(511) of 64 bytes", of(3, 64).free(511), 1);
        Due.due("free(512) of 64 bytes", of(3, 64).free(512), SumSmith.OUTSIDE);
    }

    private static void freeTakesNoPlaceTwice() {
        Due.promise(27, "OUTSIDE: it is told already");
        for (int place : new int[] {23, 0, 9}) {
            Refused.due("free(" + place + ") again", States::some, x -> x.free(place), SumSmith.OUTSIDE);
        }
        SumSmith x = of(3, 1);
        x.free(5);
        x.cut(0);
        Due.due("free(5) of no row", x.free(5), SumSmith.OUTSIDE);
        x.put(0);
        Due.due("free(5), told and there again", x.free(5), SumSmith.OUTSIDE);
        x.bind();
        Due.due("free(5) behind bind()", x.free(5), 1);
    }

    private static void freeIsFullAt16() {
        Due.promise(27, "FULL: 16");
        SumSmith x = of(3, 3);
        for (int j = 1; j <= 16; j++) {
            Due.due("free " + j, x.free(24 - j), j);
        }
        Due.due("free 17", x.free(0), SumSmith.FULL);
        Due.due("how many", x.about(3), 16);
        Refused.due("free(20), full", States::full, y -> y.free(20), SumSmith.FULL);
        Refused.due("free(511), full", States::full, y -> y.free(511), SumSmith.FULL);
        for (int place : new int[] {0, 15, -1, 512}) {
            Refused.due("free(" + place + "), full", States::full, y -> y.free(place), SumSmith.OUTSIDE);
        }
    }

    // ---- promise 28

    private static void bindOfNoneAndOfAll() {
        Due.promise(28, "No PLACES are told for aim(): how many there were");
        Refused.due("bind() of none", States::fresh, x -> x.bind(), 0);
        SumSmith x = States.full();
        Due.due("bind() of 16", x.bind(), 16);
        Due.due("how many", x.about(3), 0);
        Due.due("bind() again", x.bind(), 0);
        Due.due("free(3)", x.free(3), 1);
        Due.due("bind() of one", x.bind(), 1);
        SumSmith y = States.some();
        y.cut(0);
        Due.due("bind() of places that are no more", y.bind(), 3);
        SumSmith z = of(3, 2);
        z.free(0);
        z.bind();
        Due.due("aim at another sum", z.aim(0, z.syndrome(0, 0, 2)), 0);
        Due.due("aim at its sum", z.aim(0, 0), 1);
    }

    private static void bindKeepsTheWays() {
        Due.promise(30, "WAY i of the latest aim() (also behind bind(), cut())");
        SumSmith x = of(3, 2);
        x.free(15);
        x.aim(0, 3);
        x.bind();
        waysDue(x, 1);
        x.cut(0);
        waysDue(x, 1);
    }

    // ---- promise 29

    private static void aimWithoutPlaces() {
        Due.promise(29, "How many WAYS there are (without PLACES: to turn none)");
        SumSmith x = of(3, 0);
        Due.due("no row, its sum", x.aim(0, 0), 1);
        waysDue(x, 0);
        Due.due("no row, another sum", x.aim(0, 1), 0);
        waysDue(x);
        x.put(1);
        Due.due("a byte, its sum", x.aim(0, 3), 1);
        waysDue(x, 0);
        Due.due("a byte, another sum", x.aim(0, 0), 0);
        waysDue(x);
        SumSmith y = new SumSmith();
        y.divided(3, 3, 5, 1, false, true);
        Due.due("no row, begin and finish", y.aim(0, 4), 1);
    }

    private static void aimAtSumsOfNBits() {
        Due.promise(29, "OUTSIDE: s");
        for (long s = 0; s <= 7; s++) {
            SumSmith x = of(3, 1);
            States.free(x, 7, 6, 5);
            Due.due("aim(0, " + s + ")", x.aim(0, s), 1);
        }
        for (long s : new long[] {-1, 65536, Long.MIN_VALUE, Long.MAX_VALUE}) {
            Refused.due("s " + s + " of 16 bits", States::some, x -> x.aim(States.DIVIDED, s), SumSmith.OUTSIDE);
        }
        for (long s : new long[] {-1, 1L << 32, Long.MIN_VALUE, Long.MAX_VALUE}) {
            Refused.due("s " + s + " of 32 bits", States::some, x -> x.aim(States.MENDING, s), SumSmith.OUTSIDE);
        }
        Due.due("s 8 of 3 bits", of(3, 1).aim(0, 8), SumSmith.OUTSIDE);
        Due.due("s 65535 of 16 bits", States.some().aim(States.DIVIDED, 65535), 0);
        Due.due("s 2^32 - 1 of 32 bits", States.some().aim(States.MENDING, (1L << 32) - 1), 0);
        SumSmith x = new SumSmith();
        x.divided(32, 0x04C11DB7L, 0xFFFFFFFFL, 0, false, false);
        Due.due("s 2^32 - 1, which is the sum", x.aim(0, (1L << 32) - 1), 1);
    }

    private static void aimWithPlacesThatAreNoMore() {
        Due.promise(29, "PLACES that THE ROW has no more are turned in none");
        SumSmith x = of(0, 3);
        States.free(x, 23, 0, 8, 7, 16);
        Due.due("3 bytes", x.aim(0, 0), 32);
        x.cut(2);
        Due.due("2 bytes", x.aim(0, 0), 8);
        waysDue(x, 0, 2, 4, 6, 8, 10, 12, 14);
        x.cut(1);
        Due.due("1 byte", x.aim(0, 0), 4);
        waysDue(x, 0, 2, 8, 10);
        x.cut(0);
        Due.due("no bytes", x.aim(0, 0), 1);
        waysDue(x, 0);
        Due.due("they are told yet", x.about(3), 5);
        States.put(x, 0, 0, 0);
        Due.due("3 bytes again", x.aim(0, 0), 32);
    }

    private static void aimWith16Places() {
        Due.terms("PLACES of THE ROW (16 at most) are told; WAYS are all sets of them");
        SumSmith x = of(0, 64);
        for (int place = 496; place < 512; place++) {
            x.free(place);
        }
        Due.due("all sets are ways", x.aim(0, 0), 65536);
        Due.due("no set is a way", x.aim(0, 1), 0);
        SumSmith y = of(0, 2);
        y.divided(16, 0x1021, 0, 0, false, false);
        for (int place = 0; place < 16; place++) {
            y.free(place);
        }
        long all = 0;
        for (int place = 0; place < 16; place++) {
            all ^= y.syndrome(1, place, 2);
        }
        Due.due("one way", y.aim(1, all), 1);
        waysDue(y, 65535);
        Due.due("the place told first", y.aim(1, y.syndrome(1, 0, 2)), 1);
        waysDue(y, 1);
        Due.due("the place told last", y.aim(1, y.syndrome(1, 15, 2)), 1);
        waysDue(y, 32768);
    }

    private static void aimTurnsNothing() {
        Due.promise(29, "by which THE ROW gets the SUM s (it is only told how)");
        SumSmith x = of(3, 1);
        x.free(7);
        Due.due("aim", x.aim(0, 3), 1);
        Due.due("the byte", x.at(0), 0);
        Due.due("places", x.about(3), 1);
    }

    private static void aimRefusesInOrder() {
        Due.promise(29, "UNKNOWN; KIND; OUTSIDE");
        Refused.due("aim(0) of none", States::fresh, x -> x.aim(0, 0), SumSmith.UNKNOWN);
        for (int k : new int[] {-1, States.NO_SUM, Integer.MIN_VALUE, Integer.MAX_VALUE}) {
            Refused.due("aim(" + k + ", 0)", States::some, x -> x.aim(k, 0), SumSmith.UNKNOWN);
            Refused.due("aim(" + k + ", -1)", States::some, x -> x.aim(k, -1), SumSmith.UNKNOWN);
        }
        int[] others = {States.PLAIN, States.TWOFOLD, States.TWO_WEIGHTS, States.ONE_WEIGHT, States.TURNING, States.SQUARE};
        for (int k : others) {
            Refused.due("aim(" + k + ", 0)", States::some, x -> x.aim(k, 0), SumSmith.KIND);
            Refused.due("aim(" + k + ", -1)", States::some, x -> x.aim(k, -1), SumSmith.KIND);
        }
    }

    // ---- promise 30

    private static void wayBeforeAnyAim() {
        Due.promise(30, "NONE: there is none such");
        for (int i : new int[] {0, -1, 1, 63, 64, Integer.MIN_VALUE, Integer.MAX_VALUE}) {
            Refused.due("way(" + i + "), no aim yet", States::fresh, x -> x.way(i), SumSmith.NONE);
        }
        Due.due("way(0) of one", States.some().way(0), 4);
        for (int i : new int[] {-1, 1, 63, 64, Integer.MIN_VALUE, Integer.MAX_VALUE}) {
            Refused.due("way(" + i + ") of one", States::some, x -> x.way(i), SumSmith.NONE);
        }
    }

    private static void waysRise() {
        Due.terms("as numbers, PLACE told first counts 1, the next one 2, ..; rising");
        SumSmith x = of(3, 2);
        // 15, 8 and 1 have the syndrome 3, 14 and 7 have 6
        States.free(x, 14, 15, 1, 7, 8);
        Due.due("aim at 3", x.aim(0, 3), 8);
        waysDue(x, 2, 4, 11, 13, 16, 22, 25, 31);
        Due.due("aim at 6", x.aim(0, 6), 8);
        waysDue(x, 1, 7, 8, 14, 19, 21, 26, 28);
    }

    private static void wayKeepsTheFirst64() {
        Due.promise(30, "(or it was not kept): the first 64 are kept");
        for (int places = 5; places <= 8; places++) {
            SumSmith x = of(0, 1);
            for (int place = 0; place < places; place++) {
                x.free(place);
            }
            int found = 1 << places;
            Due.due("ways of " + places + " places", x.aim(0, 0), found);
            for (int i = 0; i < 66; i++) {
                Due.due("way(" + i + ") of " + found, x.way(i), i < found && i < 64 ? i : SumSmith.NONE);
            }
        }
    }

    private static void wayOfTheLatestAim() {
        Due.promise(30, "of the latest aim() that was not refused");
        SumSmith x = of(3, 2);
        x.plain(2);
        States.free(x, 15, 14);
        x.aim(0, 5);
        waysDue(x, 3);
        Due.due("refused, OUTSIDE", x.aim(0, 8), SumSmith.OUTSIDE);
        waysDue(x, 3);
        Due.due("refused, KIND", x.aim(1, 0), SumSmith.KIND);
        waysDue(x, 3);
        Due.due("refused, UNKNOWN", x.aim(2, 0), SumSmith.UNKNOWN);
        waysDue(x, 3);
        x.aim(0, 6);
        waysDue(x, 2);
        Due.due("no ways", x.aim(0, 1), 0);
        waysDue(x);
    }
}
