import java.util.Arrays;

/** Promises 11 to 15, 34 and 35: every sentence that names a boundary case, one by one. */
public final class RowEdgesTest {
    private static final int[] NO_BYTES = {-1, 256, Integer.MIN_VALUE, Integer.MAX_VALUE};

    public static void main(String[] args) {
        putTakes0To255();
        putIsFullAt64();
        setTakesBytesOfTheRow();
        setTakes0To255();
        setTellsWhatItWas();
        atOfTheRow();
        cutToNoneAndToAll();
        cutOutside();
        cutThenPut();
        sumUnknown();
        sumOfNoBytes();
        sumOf64Bytes();
        sumIsNeverBelow0();
        sumNotOfASquare();
        highestAndLowestBitFirst();
        traceOfEachKind();
        traceCountsRefusedWithNot();
        traceCountsMendingTwice();
        traceCountsSumAlone();
        traceOutside();
        aboutOfEach();
        aboutOutside();
        Due.end();
    }

    private static int[] bytesAlike(int many, int b) {
        int[] bytes = new int[many];
        Arrays.fill(bytes, b);
        return bytes;
    }

    // ---- promise 11

    private static void putTakes0To255() {
        Due.promise(11, "A byte (0 .. 255) more of THE ROW: how many. OUTSIDE");
        SumSmith x = new SumSmith();
        Due.due("put(0)", x.put(0), 1);
        Due.due("put(255)", x.put(255), 2);
        Due.due("at(0)", x.at(0), 0);
        Due.due("at(1)", x.at(1), 255);
        for (int b : NO_BYTES) {
            Refused.due("put(" + b + ")", States::fresh, y -> y.put(b), SumSmith.OUTSIDE);
            Refused.due("put(" + b + ")", States::some, y -> y.put(b), SumSmith.OUTSIDE);
        }
    }

    private static void putIsFullAt64() {
        Due.promise(11, "FULL: 64");
        SumSmith x = new SumSmith();
        for (int i = 1; i <= 64; i++) {
            Due.due("put " + i, x.put(i), i);
        }
        Due.due("put 65", x.put(65), SumSmith.FULL);
        Due.due("at(63)", x.at(63), 64);
        Refused.due("put(7), full", States::full, y -> y.put(7), SumSmith.FULL);
        for (int b : NO_BYTES) {
            Refused.due("put(" + b + "), full", States::full, y -> y.put(b), SumSmith.OUTSIDE);
        }
        x.cut(63);
        Due.due("put(9) behind cut(63)", x.put(9), 64);
        Due.due("put(9) again", x.put(9), SumSmith.FULL);
    }

    // ---- promise 12

    private static void setTakesBytesOfTheRow() {
        Due.promise(12, "Byte i of THE ROW is b. UNKNOWN");
        SumSmith x = States.withRow(5, 6, 7);
        Due.due("set(0, 8)", x.set(0, 8), 5);
        Due.due("set(2, 9)", x.set(2, 9), 7);
        Due.due("at(0)", x.at(0), 8);
        Due.due("at(1)", x.at(1), 6);
        Due.due("at(2)", x.at(2), 9);
        Refused.due("set(0, 1) of none", States::fresh, y -> y.set(0, 1), SumSmith.UNKNOWN);
        for (int i : new int[] {-1, 3, 4, 64, Integer.MIN_VALUE, Integer.MAX_VALUE}) {
            Refused.due("set(" + i + ", 1)", States::some, y -> y.set(i, 1), SumSmith.UNKNOWN);
        }
        Due.due("set(63, 9) of 64", States.full().set(63, 9), 1);
        Refused.due("set(64, 9) of 64", States::full, y -> y.set(64, 9), SumSmith.UNKNOWN);
        x.cut(2);
        Due.due("set(2, 1), cut away", x.set(2, 1), SumSmith.UNKNOWN);
    }

    private static void setTakes0To255() {
        Due.promise(12, "UNKNOWN; OUTSIDE");
        SumSmith x = States.withRow(1);
        Due.due("set(0, 255)", x.set(0, 255), 1);
        Due.due("set(0, 0)", x.set(0, 0), 255);
        for (int b : NO_BYTES) {
            Refused.due("set(2, " + b + ")", States::some, y -> y.set(2, b), SumSmith.OUTSIDE);
            Refused.due("set(3, " + b + ")", States::some, y -> y.set(3, b), SumSmith.UNKNOWN);
            Refused.due("set(-1, " + b + ")", States::some, y -> y.set(-1, b), SumSmith.UNKNOWN);
        }
    }

    private static void setTellsWhatItWas() {
        Due.promise(12, "what it was");
        SumSmith x = States.withRow(5, 6);
        Due.due("set(1, 6)", x.set(1, 6), 6);
        Due.due("set(1, 7)", x.set(1, 7), 6);
        Due.due("set(1, 8)", x.set(1, 8), 7);
        Due.due("bytes", x.about(1), 2);
    }

    // ---- promise 13

    private static void atOfTheRow() {
        Due.promise(13, "Byte i of THE ROW. UNKNOWN");
        SumSmith x = States.withRow(0, 128, 255);
        Due.due("at(0)", x.at(0), 0);
        Due.due("at(1)", x.at(1), 128);
        Due.due("at(2)", x.at(2), 255);
        Refused.due("at(0) of none", States::fresh, y -> y.at(0), SumSmith.UNKNOWN);
        for (int i : new int[] {-1, 3, 63, 64, Integer.MIN_VALUE, Integer.MAX_VALUE}) {
            Refused.due("at(" + i + ")", States::some, y -> y.at(i), SumSmith.UNKNOWN);
        }
        Due.due("at(63) of 64", States.full().at(63), 1);
        Refused.due("at(64) of 64", States::full, y -> y.at(64), SumSmith.UNKNOWN);
        Refused.changesNothing("at(0)", States::some, y -> y.at(0));
        x.cut(2);
        Due.due("at(2), cut away", x.at(2), SumSmith.UNKNOWN);
    }

    // ---- promise 14

    private static void cutToNoneAndToAll() {
        Due.promise(14, "THE ROW is cut to its first n bytes: how many went");
        SumSmith x = States.withRow(5, 6, 7);
        Due.due("cut(3) of 3", x.cut(3), 0);
        Due.due("at(2)", x.at(2), 7);
        Due.due("cut(1) of 3", x.cut(1), 2);
        Due.due("at(0)", x.at(0), 5);
        Due.due("bytes", x.about(1), 1);
        Due.due("cut(0) of 1", x.cut(0), 1);
        Due.due("bytes", x.about(1), 0);
        Due.due("cut(0) of none", x.cut(0), 0);
        Refused.changesNothing("cut(3) of 3", States::some, y -> y.cut(3));
        Refused.changesNothing("cut(64) of 64", States::full, y -> y.cut(64));
        Due.due("cut(0) of 64", States.full().cut(0), 64);
    }

    private static void cutOutside() {
        Due.promise(14, "OUTSIDE");
        Refused.due("cut(1) of none", States::fresh, x -> x.cut(1), SumSmith.OUTSIDE);
        for (int n : new int[] {-1, 4, 64, Integer.MIN_VALUE, Integer.MAX_VALUE}) {
            Refused.due("cut(" + n + ")", States::some, x -> x.cut(n), SumSmith.OUTSIDE);
        }
        Refused.due("cut(65) of 64", States::full, x -> x.cut(65), SumSmith.OUTSIDE);
    }

    private static void cutThenPut() {
        Due.promise(14, "THE ROW is cut (what went does not come back)");
        SumSmith x = States.withRow(5, 6, 7);
        x.plain(97);
        x.cut(1);
        Due.due("sum of what stays", x.sum(0), 5);
        Due.due("put(0)", x.put(0), 2);
        Due.due("at(1)", x.at(1), 0);
        Due.due("sum", x.sum(0), 5);
    }

    // ---- promise 15

    private static void sumUnknown() {
        Due.promise(15, "-2 UNKNOWN");
        Refused.due("sum(0) of none", States::fresh, x -> x.sum(0), SumSmith.UNKNOWN);
        for (int k : new int[] {-1, 8, 16, Integer.MIN_VALUE, Integer.MAX_VALUE}) {
            Refused.due("sum(" + k + ")", States::some, x -> x.sum(k), SumSmith.UNKNOWN);
        }
        Refused.due("sum(16) of 16", States::full, x -> x.sum(16), SumSmith.UNKNOWN);
        Due.due("sum(15) of 16", States.full().sum(15), 32 % 15);
    }

    private static void sumOfNoBytes() {
        Due.promise(15, "THE SUM of THE ROW (that is empty)");
        long[] want = {0, 0, 0, 0, 0, 0xFFFF ^ 0x0F0F, 0xFFFFFFFFL ^ 0x12345678L, 0};
        SumSmith x = States.eightSums();
        for (int k = 0; k < want.length; k++) {
            Due.due("sum(" + k + ")", x.sum(k), want[k]);
        }
    }

    private static void sumOf64Bytes() {
        Due.promise(15, "THE SUM of THE ROW (that is full)");
        SumSmith x = new SumSmith();
        x.plain(65536);
        x.twofold(65521);
        for (int i = 0; i < 12; i++) {
            x.tell(65535);
        }
        x.weighted(65521);
        x.turning(8, 1);
        Due.due("plain", States.sumOf(x, 0, bytesAlike(64, 255)), 64 * 255);
        Due.due("twofold", x.sum(1), 65536L * (255 * 64 * 65 / 2 % 65521) + 64 * 255);
        Due.due("weighted", x.sum(2), 65535L * 255 * 64 % 65521);
        Due.due("turning, 64 times all bits", x.sum(3), 0);
        x.cut(63);
        Due.due("turning, 63 times all bits", x.sum(3), 255);
        x.put(254);
        Due.due("plain, the last byte", x.sum(0), 64 * 255 - 1);
    }

    private static void sumIsNeverBelow0() {
        Due.terms("none of them is below 0");
        SumSmith x = new SumSmith();
        x.twofold(65536);
        x.turning(32, 31);
        x.divided(32, 0x80000000L, 0, 0, false, false);
        int[] bytes = bytesAlike(64, 0);
        bytes[0] = 255;
        bytes[1] = 255;
        bytes[60] = 255;
        bytes[63] = 126;
        Due.due("B above 32767", States.sumOf(x, 0, bytes), 65536L * (255 * (64 + 63 + 4) + 126) + 3 * 255 + 126);
        Due.due("the highest of 32 turned bits", States.sumOf(x, 1, 1, 0), 1L << 31);
        Due.due("the highest of 32 divided bits", States.sumOf(x, 2, 1), 1L << 31);
    }

    private static void sumNotOfASquare() {
        Due.promise(15, "-5 NOT: a byte is not below q");
        SumSmith x = new SumSmith();
        States.tell(x, States.LATIN_4);
        x.square(4);
        for (int i = 0; i < 3; i++) {
            int[] bytes = {3, 3, 3};
            Due.due("all are q - 1", States.sumOf(x, 0, bytes), 3);
            for (int b : new int[] {4, 5, 255}) {
                bytes[i] = b;
                Due.due("byte " + i + " is " + b, States.sumOf(x, 0, bytes), SumSmith.NOT);
            }
        }
        States.sumOf(x, 0, 3, 4);
        x.cut(1);
        Due.due("the wrong byte is cut away", x.sum(0), 3);
        SumSmith y = States.withRow(200);
        Due.due("NOT is of squares alone", y.sum(y.plain(256)), 200);
    }

    private static void highestAndLowestBitFirst() {
        Due.terms("for each bit of each byte (the highest one first, or, by LOW, the lowest)");
        SumSmith x = new SumSmith();
        x.divided(8, 7, 0, 0, false, false);
        x.divided(8, 7, 0, 0, true, false);
        Due.due("the last bit, highest first", States.sumOf(x, 0, 1), 7);
        Due.due("the last bit, lowest first", States.sumOf(x, 1, 128), 7);
        Due.due("two bits, highest first", States.sumOf(x, 0, 2), 14);
        Due.due("two bits, lowest first", States.sumOf(x, 1, 64), 14);
        Due.due("n bits stay", States.sumOf(x, 0, 64), 7 << 6 & 255 ^ 7);
        Due.due("bytes stay in their order", States.sumOf(x, 1, 0, 128), 7);
    }

    // ---- promise 34

    private static void traceOfEachKind() {
        Due.promise(34, "0 .. 6 by KINDS");
        int[] kinds = {0, 1, 2, 2, 3, 4, 5, 6};
        for (int k = 0; k < kinds.length; k++) {
            SumSmith x = States.eightSums();
            x.sum(k);
            x.sum(k);
            x.sum(k);
            for (int kind = 0; kind < 7; kind++) {
                int want = kind == kinds[k] || kind == 4 && kinds[k] == 5 ? 3 : 0;
                Due.due("trace(" + kind + ") behind sum(" + k + ")", x.trace(kind), want);
            }
        }
    }

    private static void traceCountsRefusedWithNot() {
        Due.promise(34, "refused ones with NOT, too");
        SumSmith x = States.eightSums();
        Due.due("sum", States.sumOf(x, States.SQUARE, 1, 2), SumSmith.NOT);
        Due.due("trace(6)", x.trace(6), 1);
        x.cut(1);
        Due.due("sum", x.sum(States.SQUARE), 1);
        Due.due("trace(6)", x.trace(6), 2);
        x.sum(States.NO_SUM);
        x.sum(-1);
        for (int kind = 0; kind < 6; kind++) {
            Due.due("trace(" + kind + ") behind UNKNOWN", x.trace(kind), 0);
        }
        Due.due("trace(6) behind UNKNOWN", x.trace(6), 2);
    }

    private static void traceCountsMendingTwice() {
        Due.promise(34, "a MENDING one's asks DIVIDED's once, too");
        SumSmith x = States.eightSums();
        x.sum(States.MENDING);
        Due.due("trace(5) of a MENDING one", x.trace(5), 1);
        Due.due("trace(4) of a MENDING one", x.trace(4), 1);
        x.sum(States.DIVIDED);
        Due.due("trace(5) of a DIVIDED one", x.trace(5), 1);
        Due.due("trace(4) of a DIVIDED one", x.trace(4), 2);
    }

    private static void traceCountsSumAlone() {
        Due.promise(34, "by sum()");
        SumSmith x = States.eightSums();
        States.put(x, 1, 0, 1);
        x.free(3);
        for (int k = 0; k <= States.SQUARE; k++) {
            x.joined(k, 0, 0, 0, 0);
            x.other(k, 0, 1, 0, 0, 1);
            x.less(k, 0, 1, 0);
            x.sees(k, 2, 0, 2);
            x.signs(k, 0);
            x.syndrome(k, 0, 1);
            x.weight(k, 1);
            x.count(k, 1, 1);
            x.period(k);
            x.aim(k, 0);
            x.mend(k, 0);
            x.reach(k);
        }
        for (int kind = 0; kind < 7; kind++) {
            Due.due("trace(" + kind + ")", x.trace(kind), 0);
        }
    }

    private static void traceOutside() {
        Due.promise(34, "OUTSIDE");
        for (int kind : new int[] {-1, 7, Integer.MIN_VALUE, Integer.MAX_VALUE}) {
            Refused.due("trace(" + kind + ")", States::some, x -> x.trace(kind), SumSmith.OUTSIDE);
        }
        Refused.changesNothing("trace(0)", States::some, x -> x.trace(0));
        Refused.changesNothing("trace(6)", States::some, x -> x.trace(6));
    }

    // ---- promise 35

    private static void aboutOfEach() {
        Due.promise(35, "0 SUMS, 1 bytes of THE ROW, 2 numbers of TOLD, 3 PLACES for aim(), 4 bytes of THE FIRST");
        int[] none = {0, 0, 0, 0, 0};
        int[] some = {8, 3, 4, 3, 4};
        int[] full = {16, 64, 100, 16, 4};
        for (int what = 0; what < 5; what++) {
            Due.due("about(" + what + ") of none", new SumSmith().about(what), none[what]);
            Due.due("about(" + what + ") of some", States.some().about(what), some[what]);
            Due.due("about(" + what + ") of full", States.full().about(what), full[what]);
        }
        SumSmith x = States.some();
        x.cut(0);
        Due.due("PLACES that THE ROW has no more", x.about(3), 3);
        x.sees(States.PLAIN, 3, 0, 8);
        Due.due("bytes of THE FIRST, 8", x.about(4), 8);
        x.sees(States.TWOFOLD, 2, 0, 1);
        Due.due("bytes of THE FIRST, 1", x.about(4), 1);
    }

    private static void aboutOutside() {
        Due.promise(35, "OUTSIDE");
        for (int what : new int[] {-1, 5, Integer.MIN_VALUE, Integer.MAX_VALUE}) {
            Refused.due("about(" + what + ")", States::some, x -> x.about(what), SumSmith.OUTSIDE);
        }
        Refused.changesNothing("about(4)", States::some, x -> x.about(4));
    }
}
