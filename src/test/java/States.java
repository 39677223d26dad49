/** Objects in the states that the tests of edges start from. All but the fresh one have the same first eight sums. */
final class States {
    static final int PLAIN = 0, TWOFOLD = 1, TWO_WEIGHTS = 2, ONE_WEIGHT = 3, TURNING = 4, DIVIDED = 5, MENDING = 6,
        SQUARE = 7, NO_SUM = 8;

    /** Each row and each column has each sign once, so that every cell can be read from a sum. */
    static final int[] LATIN_4 = {0, 1, 2, 3, 1, 0, 3, 2, 2, 3, 0, 1, 3, 2, 1, 0};

    private States() {
    }

    static SumSmith fresh() {
        return new SumSmith();
    }

    /** Something of everything, and nothing full: 8 sums, 3 bytes, 4 told, 3 places, a first, a weight, some ways. */
    static SumSmith some() {
        SumSmith x = eightSums();
        put(x, 1, 0, 1);
        tell(x, 1, 0, 0, 1);
        free(x, 23, 0, 9);
        useEverything(x);
        return x;
    }

    /** As some(), with as many told as a square of four signs has cells: too many for weights. */
    static SumSmith sixteenTold() {
        SumSmith x = some();
        x.untell();
        tell(x, LATIN_4);
        return x;
    }

    /** All that has an end is at it: 16 sums, 64 bytes, 100 told, 16 places. */
    static SumSmith full() {
        SumSmith x = eightSums();
        for (int k = 8; k < 16; k++) {
            x.plain(k);
        }
        for (int i = 0; i < 64; i++) {
            x.put(i % 2);
        }
        for (int i = 0; i < 100; i++) {
            x.tell(i % 10);
        }
        for (int place = 0; place < 16; place++) {
            x.free(place);
        }
        useEverything(x);
        return x;
    }

    /** As some(), but there is no room for a further sum. */
    static SumSmith sixteenSums() {
        SumSmith x = some();
        for (int k = 8; k < 16; k++) {
            x.plain(k);
        }
        return x;
    }

    static SumSmith eightSums() {
        SumSmith x = new SumSmith();
        x.plain(97);
        x.twofold(255);
        tell(x, 7, 3);
        x.weighted(101);
        tell(x, 5);
        x.weighted(99);
        x.turning(13, 5);
        x.divided(16, 0x1021, 0xFFFF, 0x0F0F, false, false);
        x.divided(32, 0x04C11DB7L, 0xFFFFFFFFL, 0x12345678L, true, true);
        tell(x, 0, 1, 1, 0);
        x.square(2);
        return x;
    }

    private static void useEverything(SumSmith x) {
        x.sees(PLAIN, 3, 0, 4);
        x.weight(DIVIDED, 6);
        x.aim(MENDING, x.sum(MENDING) ^ x.syndrome(MENDING, 9, x.about(1)));
        x.sum(SQUARE);
        x.sum(TURNING);
    }

    static void put(SumSmith x, int... bytes) {
        for (int b : bytes) {
            x.put(b);
        }
    }

    static void tell(SumSmith x, int... numbers) {
        for (int v : numbers) {
            x.tell(v);
        }
    }

    static void free(SumSmith x, int... places) {
        for (int place : places) {
            x.free(place);
        }
    }

    static SumSmith withRow(int... bytes) {
        SumSmith x = new SumSmith();
        put(x, bytes);
        return x;
    }

    /** THE SUM of these bytes, which are THE ROW then. */
    static long sumOf(SumSmith x, int k, int... bytes) {
        x.cut(0);
        put(x, bytes);
        return x.sum(k);
    }
}
