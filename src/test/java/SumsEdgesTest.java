import java.util.function.IntFunction;
import java.util.function.ToLongFunction;

/** "What it is" and promises 1 to 10: every sentence that names a boundary case, one by one. */
public final class SumsEdgesTest {
    private static final int[] NO_MODULI = {1, 0, -1, 65537, Integer.MIN_VALUE, Integer.MAX_VALUE};

    public static void main(String[] args) {
        sixteenSumsAtMost();
        the512thCall();
        newObjectIsEmpty();
        newObjectSharesNothing();
        tellTakes0To65535();
        tellIsFullAt100();
        untellOfNoneAndOfAll();
        plainTakes2To65536();
        plainIsFullLast();
        twofoldTakes2To65536();
        twofoldIsFullLast();
        weightedTakes2To65536();
        weightedTakes1To12Weights();
        weightedEmptiesTold();
        weightedRefusesInOrder();
        turningTakes8To32();
        turningTakesTurnsBelowN();
        turningIsFullLast();
        dividedTakes3To32();
        dividedTakesNumbersOfNBits();
        dividedOrMending();
        dividedIsFullLast();
        squareTakes2To10();
        squareTakesJustQTimesQ();
        squareTakesCellsBelowQ();
        squareEmptiesTold();
        squareRefusesInOrder();
        kindOfEachSum();
        Due.end();
    }

    // ---- what it is

    private static void sixteenSumsAtMost() {
        Due.terms("SUMS are numbered from 0 as they are made, 16 at most");
        SumSmith x = new SumSmith();
        for (int k = 0; k < 16; k++) {
            States.tell(x, 1);
            int made = k % 3 == 0 ? x.plain(2) : k % 3 == 1 ? x.weighted(2) : x.turning(8, 0);
            Due.due("number of sum " + k, made, k);
            x.untell();
        }
        Due.due("the 17th", x.plain(2), SumSmith.FULL);
        Due.due("sums", x.about(0), 16);
        Due.due("kind(15)", x.kind(15), 0);
        Due.due("kind(16)", x.kind(16), SumSmith.UNKNOWN);
    }

    private static void the512thCall() {
        Due.terms("An object is used for at most 512 calls");
        SumSmith x = new SumSmith();
        x.plain(2);
        for (int call = 2; call <= 511; call++) {
            x.sum(0);
        }
        Due.due("trace(0), the 512th call", x.trace(0), 510);
    }

    // ---- promise 1

    private static void newObjectIsEmpty() {
        Due.promise(1, "No SUMS; THE ROW, what is told ahead of a SUM (TOLD) are empty");
        for (int what = 0; what < 5; what++) {
            Due.due("about(" + what + ")", new SumSmith().about(what), 0);
        }
        Due.due("kind(0)", new SumSmith().kind(0), SumSmith.UNKNOWN);
        Due.due("sum(0)", new SumSmith().sum(0), SumSmith.UNKNOWN);
        Due.due("plain(2)", new SumSmith().plain(2), 0);
        Due.due("at(0)", new SumSmith().at(0), SumSmith.UNKNOWN);
        Due.due("cut(0)", new SumSmith().cut(0), 0);
        Due.due("put(0)", new SumSmith().put(0), 1);
        Due.due("untell()", new SumSmith().untell(), 0);
        Due.due("tell(0)", new SumSmith().tell(0), 1);
        Due.due("weighted(2)", new SumSmith().weighted(2), SumSmith.NOT);
        Due.due("bind()", new SumSmith().bind(), 0);
    }

    private static void newObjectSharesNothing() {
        Due.promise(1, "No SUMS; THE ROW, TOLD are empty (whatever other objects have)");
        SumSmith x = new SumSmith();
        States.full();
        for (int what = 0; what < 5; what++) {
            Due.due("about(" + what + ") beside a full one", x.about(what), 0);
            Due.due("about(" + what + ") behind a full one", new SumSmith().about(what), 0);
        }
        for (int kind = 0; kind < 7; kind++) {
            Due.due("trace(" + kind + ") behind a full one", new SumSmith().trace(kind), 0);
        }
        Due.due("passes(0, true)", new SumSmith().passes(0, true), SumSmith.UNKNOWN);
        Due.due("lightest(0)", new SumSmith().lightest(0), SumSmith.NONE);
        Due.due("way(0)", new SumSmith().way(0), SumSmith.NONE);
    }

    // ---- promises 2 and 3

    private static void tellTakes0To65535() {
        Due.promise(2, "A number (0 .. 65535) more of TOLD: how many. OUTSIDE");
        SumSmith x = new SumSmith();
        Due.due("tell(0)", x.tell(0), 1);
        Due.due("tell(65535)", x.tell(65535), 2);
        x.weighted(65536);
        Due.due("the weight 0", States.sumOf(x, 0, 1), 0);
        Due.due("the weight 65535", States.sumOf(x, 0, 0, 1), 65535);
        for (int v : new int[] {-1, 65536, Integer.MIN_VALUE, Integer.MAX_VALUE}) {
            Refused.due("tell(" + v + ")", States::fresh, y -> y.tell(v), SumSmith.OUTSIDE);
            Refused.due("tell(" + v + ")", States::some, y -> y.tell(v), SumSmith.OUTSIDE);
        }
    }

    private static SumSmith hundredTold() {
        SumSmith x = new SumSmith();
        for (int i = 0; i < 100; i++) {
            x.tell((i / 10 + i) % 10);
        }
        return x;
    }

    private static void tellIsFullAt100() {
        Due.promise(2, "FULL: 100");
        SumSmith x = new SumSmith();
        for (int i = 1; i <= 100; i++) {
            Due.due("tell " + i, x.tell(0), i);
        }
        Due.due("tell 101", x.tell(0), SumSmith.FULL);
        Due.due("how many", x.about(2), 100);
        Refused.due("tell(7), full", States::full, y -> y.tell(7), SumSmith.FULL);
        Refused.due("tell(65536), full", States::full, y -> y.tell(65536), SumSmith.OUTSIDE);
        Refused.due("tell(-1), full", States::full, y -> y.tell(-1), SumSmith.OUTSIDE);
        SumSmith cells = hundredTold();
        cells.tell(9);
        cells.square(10);
        Due.due("the first of 100", States.sumOf(cells, 0, 0), 0);
        Due.due("the last of 100", States.sumOf(cells, 0, 9, 9), 8);
    }

    private static void untellOfNoneAndOfAll() {
        Due.promise(3, "TOLD is empty: how many it had");
        Refused.due("untell() of none", States::fresh, x -> x.untell(), 0);
        SumSmith x = hundredTold();
        Due.due("untell() of 100", x.untell(), 100);
        Due.due("how many", x.about(2), 0);
        Due.due("untell() again", x.untell(), 0);
        Due.due("weighted(2) of none", x.weighted(2), SumSmith.NOT);
        Due.due("tell(5) behind it", x.tell(5), 1);
        Due.due("untell() of one", x.untell(), 1);
        SumSmith y = States.some();
        Due.due("untell() of four", y.untell(), 4);
        Due.due("sums", y.about(0), 8);
        Due.due("a sum that was made of TOLD", States.sumOf(y, States.TWO_WEIGHTS, 1, 1), 10);
    }

    // ---- promises 4 and 5

    private static void moduli(String name, IntFunction<ToLongFunction<SumSmith>> make) {
        Due.due(name + "(2)", make.apply(2).applyAsLong(new SumSmith()), 0);
        Due.due(name + "(65536)", make.apply(65536).applyAsLong(new SumSmith()), 0);
        for (int m : NO_MODULI) {
            Refused.due(name + "(" + m + ")", States::fresh, make.apply(m), SumSmith.OUTSIDE);
            Refused.due(name + "(" + m + ")", States::some, make.apply(m), SumSmith.OUTSIDE);
        }
    }

    private static void fullLast(String call, ToLongFunction<SumSmith> good, ToLongFunction<SumSmith> outside) {
        Refused.due(call + ", 16 sums", States::sixteenSums, good, SumSmith.FULL);
        Refused.due(call + " OUTSIDE, 16 sums", States::sixteenSums, outside, SumSmith.OUTSIDE);
        Refused.due(call + ", all full", States::full, good, SumSmith.FULL);
        Refused.due(call + " OUTSIDE, all full", States::full, outside, SumSmith.OUTSIDE);
    }

    private static void plainTakes2To65536() {
        Due.promise(4, "A PLAIN SUM (m 2 .. 65536): its number. OUTSIDE");
        moduli("plain", m -> x -> x.plain(m));
        SumSmith x = new SumSmith();
        x.plain(2);
        Due.due("1 modulo 2", States.sumOf(x, 0, 1), 1);
        Due.due("2 modulo 2", States.sumOf(x, 0, 1, 1), 0);
        Due.due("255 modulo 2", States.sumOf(x, 0, 255), 1);
        x.plain(256);
        Due.due("m - 1", States.sumOf(x, 1, 255), 255);
        Due.due("m", States.sumOf(x, 1, 255, 1), 0);
        Due.due("m + 1", States.sumOf(x, 1, 1, 255, 1), 1);
        x.plain(65536);
        Due.due("joined to 65535", x.joined(2, 65534, 500, 1, 500), 65535);
        Due.due("joined to 65536", x.joined(2, 65535, 500, 1, 500), 0);
    }

    private static void plainIsFullLast() {
        Due.promise(4, "OUTSIDE; FULL");
        fullLast("plain", x -> x.plain(2), x -> x.plain(1));
    }

    private static void twofoldTakes2To65536() {
        Due.promise(5, "A TWOFOLD one (m 2 .. 65536). OUTSIDE");
        moduli("twofold", m -> x -> x.twofold(m));
        SumSmith x = new SumSmith();
        x.twofold(2);
        Due.due("A 1, B 1", States.sumOf(x, 0, 1), 65536 + 1);
        Due.due("A 2, B 1", States.sumOf(x, 0, 1, 1), 65536);
        Due.due("A 1, B 2", States.sumOf(x, 0, 1, 1, 1), 1);
        Due.due("A 2, B 2", States.sumOf(x, 0, 1, 1, 1, 1), 0);
        x.twofold(65536);
        int[] bytes = new int[64];
        for (int times : new int[] {64, 63, 62, 61, 7}) {
            bytes[64 - times] = 255;
        }
        Due.due("B 65535", States.sumOf(x, 1, bytes), 65536L * 65535 + 5 * 255);
        bytes[63] = 1;
        Due.due("B 65536", States.sumOf(x, 1, bytes), 5 * 255 + 1);
    }

    private static void twofoldIsFullLast() {
        Due.promise(5, "OUTSIDE; FULL");
        fullLast("twofold", x -> x.twofold(2), x -> x.twofold(65537));
    }

    // ---- promise 6

    private static SumSmith manyTold(int many) {
        SumSmith x = new SumSmith();
        for (int i = 0; i < many; i++) {
            x.tell(i + 1);
        }
        return x;
    }

    private static void weightedTakes2To65536() {
        Due.promise(6, "A WEIGHTED one (m 2 .. 65536). OUTSIDE: m");
        for (int m : new int[] {2, 65536}) {
            Due.due("weighted(" + m + ")", manyTold(1).weighted(m), 0);
        }
        for (int m : NO_MODULI) {
            Refused.due("weighted(" + m + ")", States::some, x -> x.weighted(m), SumSmith.OUTSIDE);
        }
        SumSmith x = new SumSmith();
        States.tell(x, 65535, 1);
        x.weighted(65536);
        Due.due("65535", States.sumOf(x, 0, 1), 65535);
        Due.due("65535 and 1", States.sumOf(x, 0, 1, 1), 0);
        Due.due("255 times 65535", States.sumOf(x, 0, 255), 65536 - 255);
    }

    private static void weightedTakes1To12Weights() {
        Due.promise(6, "with TOLD as its WEIGHTS, 1 .. 12 of them. NOT: TOLD");
        Refused.due("weighted(2), none told", States::fresh, x -> x.weighted(2), SumSmith.NOT);
        Due.due("weighted(2), 1 told", manyTold(1).weighted(2), 0);
        Due.due("weighted(2), 12 told", manyTold(12).weighted(2), 0);
        Refused.due("weighted(2), 13 told", () -> manyTold(13), x -> x.weighted(2), SumSmith.NOT);
        Refused.due("weighted(2), 16 told", States::sixteenTold, x -> x.weighted(2), SumSmith.NOT);
        Refused.due("weighted(2), 100 told", () -> manyTold(100), x -> x.weighted(2), SumSmith.NOT);
        SumSmith x = manyTold(12);
        x.weighted(97);
        int[] bytes = new int[14];
        for (int i = 0; i < 14; i++) {
            bytes[i] = 1;
            Due.due("weight of byte " + i, States.sumOf(x, 0, bytes), i % 12 + 1);
            bytes[i] = 0;
        }
    }

    private static void weightedEmptiesTold() {
        Due.promise(6, "TOLD is empty then");
        SumSmith x = manyTold(12);
        x.weighted(2);
        Due.due("how many", x.about(2), 0);
        Due.due("weighted(2) again", x.weighted(2), SumSmith.NOT);
        Due.due("tell(9)", x.tell(9), 1);
        Due.due("weighted(97) of 9 alone", x.weighted(97), 1);
        Due.due("the second byte's weight", States.sumOf(x, 1, 0, 1), 9);
        Due.due("the first sum's weight", States.sumOf(x, 0, 0, 0, 1), 1);
    }

    private static void weightedRefusesInOrder() {
        Due.promise(6, "OUTSIDE: m; NOT: TOLD; FULL");
        Refused.due("m and TOLD", States::fresh, x -> x.weighted(1), SumSmith.OUTSIDE);
        Refused.due("m and TOLD, too many", States::sixteenTold, x -> x.weighted(65537), SumSmith.OUTSIDE);
        Refused.due("m and full", States::sixteenSums, x -> x.weighted(1), SumSmith.OUTSIDE);
        Refused.due("m, TOLD and full", States::full, x -> x.weighted(1), SumSmith.OUTSIDE);
        Refused.due("TOLD and full", States::full, x -> x.weighted(2), SumSmith.NOT);
        Refused.due("full", States::sixteenSums, x -> x.weighted(2), SumSmith.FULL);
    }

    // ---- promise 7

    private static void turningTakes8To32() {
        Due.promise(7, "A TURNING one (n 8 .. 32)");
        Due.due("turning(8, 0)", new SumSmith().turning(8, 0), 0);
        Due.due("turning(32, 0)", new SumSmith().turning(32, 0), 0);
        for (int n : new int[] {7, 33, 1, 0, -1, Integer.MIN_VALUE, Integer.MAX_VALUE}) {
            Refused.due("turning(" + n + ", 0)", States::some, x -> x.turning(n, 0), SumSmith.OUTSIDE);
        }
    }

    private static void turningTakesTurnsBelowN() {
        Due.promise(7, "t 0 .. n - 1. OUTSIDE");
        for (int n : new int[] {8, 9, 31, 32}) {
            Due.due("turning(" + n + ", n - 1)", new SumSmith().turning(n, n - 1), 0);
            for (int t : new int[] {n, n + 1, -1, Integer.MIN_VALUE, Integer.MAX_VALUE}) {
                Refused.due("turning(" + n + ", " + t + ")", States::some, x -> x.turning(n, t), SumSmith.OUTSIDE);
            }
        }
        SumSmith x = new SumSmith();
        x.turning(8, 0);
        x.turning(8, 7);
        x.turning(32, 31);
        x.turning(9, 1);
        Due.due("by 0", States.sumOf(x, 0, 0x81, 0), 0x81);
        Due.due("8 bits by 7", States.sumOf(x, 1, 0x81, 0), 0xC0);
        Due.due("32 bits by 31, the lowest bit", States.sumOf(x, 2, 1, 0), 0x80000000L);
        Due.due("32 bits by 31, and on", States.sumOf(x, 2, 1, 0, 0), 0x40000000L);
        Due.due("the highest of 9 bits", States.sumOf(x, 3, 0x80, 0), 0x100);
        Due.due("comes in at the lowest", States.sumOf(x, 3, 0x80, 0, 0), 1);
    }

    private static void turningIsFullLast() {
        Due.promise(7, "OUTSIDE; FULL");
        fullLast("turning", x -> x.turning(8, 7), x -> x.turning(8, 8));
    }

    // ---- promise 8

    private static void dividedTakes3To32() {
        Due.promise(8, "n 3 .. 32");
        Due.due("n 3", new SumSmith().divided(3, 0, 0, 0, false, false), 0);
        Due.due("n 32", new SumSmith().divided(32, 0, 0, 0, false, true), 0);
        for (int n : new int[] {2, 1, 0, -1, 33, 63, 64, Integer.MIN_VALUE, Integer.MAX_VALUE}) {
            Refused.due("n " + n, States::some, x -> x.divided(n, 0, 0, 0, false, false), SumSmith.OUTSIDE);
            Refused.due("n " + n + ", mends", States::some, x -> x.divided(n, 1, 0, 0, true, true), SumSmith.OUTSIDE);
        }
    }

    private static void dividedTakesNumbersOfNBits() {
        Due.promise(8, "p, begin, finish 0 .. 2^n - 1. OUTSIDE");
        for (int n : new int[] {3, 8, 31, 32}) {
            long last = (1L << n) - 1;
            Due.due("all 0", new SumSmith().divided(n, 0, 0, 0, false, false), 0);
            Due.due("p 2^n - 1", new SumSmith().divided(n, last, 0, 0, false, false), 0);
            Due.due("begin 2^n - 1", new SumSmith().divided(n, 0, last, 0, false, false), 0);
            Due.due("finish 2^n - 1", new SumSmith().divided(n, 0, 0, last, false, false), 0);
            for (long v : new long[] {last + 1, -1, Long.MIN_VALUE, Long.MAX_VALUE}) {
                String of = " " + v + " of " + n + " bits";
                Refused.due("p" + of, States::some, x -> x.divided(n, v, 0, 0, false, true), SumSmith.OUTSIDE);
                Refused.due("begin" + of, States::some, x -> x.divided(n, 0, v, 0, false, true), SumSmith.OUTSIDE);
                Refused.due("finish" + of, States::some, x -> x.divided(n, 0, 0, v, true, false), SumSmith.OUTSIDE);
            }
        }
        SumSmith x = new SumSmith();
        x.divided(32, 0xFFFFFFFFL, 0xFFFFFFFFL, 0, false, false);
        x.divided(32, 0xFFFFFFFFL, 0, 0xFFFFFFFFL, false, false);
        Due.due("begin of all bits", x.sum(0), 0xFFFFFFFFL);
        Due.due("finish of all bits", x.sum(1), 0xFFFFFFFFL);
    }

    private static void dividedOrMending() {
        Due.promise(8, "A DIVIDED one, or (mends) a MENDING one");
        SumSmith x = new SumSmith();
        x.divided(3, 3, 0, 0, true, false);
        x.divided(3, 3, 0, 0, false, true);
        Due.due("kind, not mends", x.kind(0), 4);
        Due.due("kind, mends", x.kind(1), 5);
    }

    private static void dividedIsFullLast() {
        Due.promise(8, "OUTSIDE; FULL");
        fullLast("divided", x -> x.divided(3, 7, 7, 7, false, false), x -> x.divided(3, 8, 7, 7, false, false));
        fullLast("divided, mends", x -> x.divided(32, 0, 0, 0, true, true), x -> x.divided(33, 0, 0, 0, true, true));
    }

    // ---- promise 9

    /** (s, a) is s + a modulo q, but for one more or less at the end. */
    private static SumSmith cellsTold(int q, int many) {
        SumSmith x = new SumSmith();
        for (int i = 0; i < many; i++) {
            x.tell((i / q + i % q) % q);
        }
        return x;
    }

    private static void squareTakes2To10() {
        Due.promise(9, "A SQUARE one (q 2 .. 10). OUTSIDE: q");
        Due.due("square(2)", cellsTold(2, 4).square(2), 0);
        Due.due("square(10)", cellsTold(10, 100).square(10), 0);
        SumSmith x = cellsTold(10, 100);
        x.square(10);
        Due.due("cell (9, 9) of ten", States.sumOf(x, 0, 9, 9), 8);
        Refused.due("square(1), 1 told", () -> cellsTold(1, 1), y -> y.square(1), SumSmith.OUTSIDE);
        Refused.due("square(0), none told", States::fresh, y -> y.square(0), SumSmith.OUTSIDE);
        for (int q : new int[] {-2, 1, 11, Integer.MIN_VALUE, Integer.MAX_VALUE, 65536}) {
            Refused.due("square(" + q + ")", States::some, y -> y.square(q), SumSmith.OUTSIDE);
        }
    }

    private static void squareTakesJustQTimesQ() {
        Due.promise(9, "with TOLD as its cells, (0, 0), (0, 1), .. (1, 0), .., q q of them. NOT: TOLD");
        for (int q = 2; q <= 10; q++) {
            int size = q;
            Due.due("square(" + q + ")", cellsTold(q, q * q).square(q), 0);
            Refused.due("square(" + q + "), one less", () -> cellsTold(size, size * size - 1), x -> x.square(size),
                SumSmith.NOT);
            Refused.due("square(" + q + "), none", States::fresh, x -> x.square(size), SumSmith.NOT);
            if (q < 10) {
                Refused.due("square(" + q + "), one more", () -> cellsTold(size, size * size + 1), x -> x.square(size),
                    SumSmith.NOT);
            }
        }
        SumSmith x = new SumSmith();
        States.tell(x, 1, 2, 0, 0, 0, 1, 2, 1, 2);
        x.square(3);
        int[] fromZero = {1, 2, 0};
        int[][] fromThere = {{0, 0, 1}, {2, 1, 2}, {1, 2, 0}};
        for (int a = 0; a < 3; a++) {
            Due.due("cell (0, " + a + ")", States.sumOf(x, 0, a), fromZero[a]);
            for (int b = 0; b < 3; b++) {
                Due.due("cell ((0, " + a + "), " + b + ")", States.sumOf(x, 0, a, b), fromThere[a][b]);
            }
        }
    }

    private static SumSmith oneCellIs(int q, int place, int v) {
        SumSmith x = new SumSmith();
        for (int i = 0; i < q * q; i++) {
            x.tell(i == place ? v : 0);
        }
        return x;
    }

    private static void squareTakesCellsBelowQ() {
        Due.promise(9, "below q. NOT: TOLD");
        for (int q : new int[] {2, 3, 10}) {
            for (int place : new int[] {0, 1, q * q / 2, q * q - 1}) {
                Due.due("cell " + place + " is q - 1", oneCellIs(q, place, q - 1).square(q), 0);
                Refused.due("cell " + place + " is q", () -> oneCellIs(q, place, q), x -> x.square(q), SumSmith.NOT);
                Refused.due("cell " + place + " is 65535", () -> oneCellIs(q, place, 65535), x -> x.square(q),
                    SumSmith.NOT);
            }
        }
    }

    private static void squareEmptiesTold() {
        Due.promise(9, "TOLD is empty then");
        SumSmith x = cellsTold(10, 100);
        x.square(10);
        Due.due("how many", x.about(2), 0);
        Due.due("square(10) again", x.square(10), SumSmith.NOT);
        Due.due("tell(0)", x.tell(0), 1);
        Due.due("the square is as told", States.sumOf(x, 0, 1, 1), 2);
    }

    private static void squareRefusesInOrder() {
        Due.promise(9, "OUTSIDE: q; NOT: TOLD; FULL");
        Refused.due("q and TOLD", States::fresh, x -> x.square(1), SumSmith.OUTSIDE);
        Refused.due("q and full", States::sixteenSums, x -> x.square(11), SumSmith.OUTSIDE);
        Refused.due("q, TOLD and full", States::full, x -> x.square(11), SumSmith.OUTSIDE);
        Refused.due("TOLD and full", States::full, x -> x.square(9), SumSmith.NOT);
        Refused.due("full, four told", States::sixteenSums, x -> x.square(2), SumSmith.FULL);
        Refused.due("full, all told", States::full, x -> x.square(10), SumSmith.FULL);
    }

    // ---- promise 10

    private static void kindOfEachSum() {
        Due.promise(10, "KIND of a SUM. UNKNOWN");
        int[] kinds = {0, 1, 2, 2, 3, 4, 5, 6};
        SumSmith x = States.eightSums();
        for (int k = 0; k < kinds.length; k++) {
            Due.due("kind(" + k + ")", x.kind(k), kinds[k]);
        }
        Refused.due("kind(0) of none", States::fresh, y -> y.kind(0), SumSmith.UNKNOWN);
        for (int k : new int[] {-1, 8, 16, Integer.MIN_VALUE, Integer.MAX_VALUE}) {
            Refused.due("kind(" + k + ")", States::some, y -> y.kind(k), SumSmith.UNKNOWN);
        }
        Due.due("kind(15) of 16", States.full().kind(15), 0);
        Refused.due("kind(16) of 16", States::full, y -> y.kind(16), SumSmith.UNKNOWN);
        Refused.changesNothing("kind(7)", States::some, y -> y.kind(7));
    }
}
