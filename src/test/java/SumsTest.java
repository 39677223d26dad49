/** Promises 1 to 10: how sums are told and made. */
public final class SumsTest {
    public static void main(String[] args) {
        promise1();
        promise2();
        promise3();
        promise4();
        promise5();
        promise6();
        promise7();
        promise8();
        promise9();
        promise10();
        fullIsLast();
        Due.end();
    }

    private static void promise1() {
        SumSmith x = new SumSmith();
        for (int what = 0; what < 5; what++) {
            Due.due("new about(" + what + ")", x.about(what), 0);
        }
        for (int kind = 0; kind < 7; kind++) {
            Due.due("new trace(" + kind + ")", x.trace(kind), 0);
        }
        Due.due("new kind(0)", x.kind(0), SumSmith.UNKNOWN);
        Due.due("new at(0)", x.at(0), SumSmith.UNKNOWN);
        Due.due("new passes(0)", x.passes(0, false), SumSmith.UNKNOWN);
        Due.due("new lightest(0)", x.lightest(0), SumSmith.NONE);
        Due.due("new way(0)", x.way(0), SumSmith.NONE);
        Due.due("new untell()", x.untell(), 0);
        Due.due("new bind()", x.bind(), 0);
        Due.due("new cut(0)", x.cut(0), 0);
        SumSmith other = new SumSmith();
        other.plain(10);
        other.put(3);
        other.tell(1);
        Due.due("another object's sums", x.about(0), 0);
        Due.due("another object's row", x.about(1), 0);
        Due.due("another object's told", x.about(2), 0);
    }

    private static void promise2() {
        SumSmith x = new SumSmith();
        Due.due("tell(-1)", x.tell(-1), SumSmith.OUTSIDE);
        Due.due("tell(65536)", x.tell(65536), SumSmith.OUTSIDE);
        Due.due("tell(MIN)", x.tell(Integer.MIN_VALUE), SumSmith.OUTSIDE);
        Due.due("refused: about(2)", x.about(2), 0);
        for (int i = 1; i <= 100; i++) {
            Due.due("tell " + i, x.tell(i % 2 == 0 ? 0 : 65535), i);
        }
        Due.due("tell 101", x.tell(0), SumSmith.FULL);
        Due.due("tell 101, outside", x.tell(-1), SumSmith.OUTSIDE);
        Due.due("about(2) of 100", x.about(2), 100);
    }

    private static void promise3() {
        SumSmith x = new SumSmith();
        Due.due("untell() of none", x.untell(), 0);
        x.tell(1);
        x.tell(2);
        Due.due("untell()", x.untell(), 2);
        Due.due("untell() again", x.untell(), 0);
        Due.due("tell() behind it", x.tell(3), 1);
    }

    private static void promise4() {
        SumSmith x = new SumSmith();
        moduli(x, true);
        SumSmith y = withRow(255, 255, 255);
        Due.due("plain(65536)", y.plain(65536), 0);
        Due.due("plain(2)", y.plain(2), 1);
        Due.due("plain(256)", y.plain(256), 2);
        Due.due("sum by 65536", y.sum(0), 765);
        Due.due("sum by 2", y.sum(1), 1);
        Due.due("sum by 256", y.sum(2), 253);
        Due.due("kind", y.kind(0), 0);
    }

    private static void promise5() {
        moduli(new SumSmith(), false);
        SumSmith y = withText("abcde");
        Due.due("twofold(255)", y.twofold(255), 0);
        Due.due("Fletcher's sum", y.sum(0), 65536L * 0xC8 + 0xF0);
        SumSmith z = new SumSmith();
        z.twofold(65536);
        for (int i = 0; i < 64; i++) {
            z.put(255);
        }
        Due.due("B beyond 2^16", z.sum(0), 65536L * (255 * 65 * 32 % 65536) + 255 * 64);
        Due.due("kind", z.kind(0), 1);
    }

    private static void moduli(SumSmith x, boolean plain) {
        int[] wrong = {1, 0, -1, 65537, Integer.MIN_VALUE, Integer.MAX_VALUE};
        for (int m : wrong) {
            Due.due("modulus " + m, plain ? x.plain(m) : x.twofold(m), SumSmith.OUTSIDE);
        }
        Due.due("no sum was made", x.about(0), 0);
        Due.due("modulus 2", plain ? x.plain(2) : x.twofold(2), 0);
        Due.due("modulus 65536", plain ? x.plain(65536) : x.twofold(65536), 1);
        Due.due("two were made", x.about(0), 2);
    }

    private static void promise6() {
        SumSmith x = new SumSmith();
        Due.due("weighted(11), none told", x.weighted(11), SumSmith.NOT);
        Due.due("weighted(1), none told", x.weighted(1), SumSmith.OUTSIDE);
        for (int w = 10; w >= 1; w--) {
            x.tell(w);
        }
        Due.due("weighted(65537)", x.weighted(65537), SumSmith.OUTSIDE);
        Due.due("still told", x.about(2), 10);
        Due.due("weighted(11)", x.weighted(11), 0);
        Due.due("told no more", x.about(2), 0);
        Due.due("weighted(11) again", x.weighted(11), SumSmith.NOT);
        for (char digit : "0306406152".toCharArray()) {
            x.put(digit - '0');
        }
        Due.due("a book's number", x.sum(0), 0);
        x.put(1);
        Due.due("the weights begin anew", x.sum(0), 10);
        tellTo(x, 12, 65535);
        Due.due("12 weights", x.weighted(65536), 1);
        Due.due("weights beyond small ones", x.sum(1), (65536L * 65536 - (0 + 3 + 6 + 4 + 6 + 1 + 5 + 2 + 1)) % 65536);
        tellTo(x, 13, 1);
        Due.due("13 weights", x.weighted(10), SumSmith.NOT);
        Due.due("13 are told yet", x.about(2), 13);
        Due.due("kind", x.kind(0), 2);
    }

    private static void promise7() {
        SumSmith x = withRow(0x81, 0x42, 0xFF);
        int[][] wrong = {{7, 0}, {33, 0}, {8, 8}, {8, -1}, {32, 32}, {0, 0}, {-1, -2}, {Integer.MIN_VALUE, 0}};
        for (int[] w : wrong) {
            Due.due("turning(" + w[0] + ", " + w[1] + ")", x.turning(w[0], w[1]), SumSmith.OUTSIDE);
        }
        Due.due("turning(8, 0)", x.turning(8, 0), 0);
        Due.due("turning(8, 7)", x.turning(8, 7), 1);
        Due.due("turning(32, 31)", x.turning(32, 31), 2);
        Due.due("turning(12, 5)", x.turning(12, 5), 3);
        Due.due("no turn", x.sum(0), 0x81 ^ 0x42 ^ 0xFF);
        Due.due("7 of 8", x.sum(1), 0x60 ^ 0x21 ^ 0xFF);
        Due.due("31 of 32", x.sum(2), Integer.toUnsignedLong(
            Integer.rotateLeft(Integer.rotateLeft(0x81, 31) ^ 0x42, 31) ^ 0xFF));
        Due.due("5 of 12", x.sum(3), turned12(turned12(0x81) ^ 0x42) ^ 0xFF);
        Due.due("kind", x.kind(0), 3);
    }

    private static long turned12(long s) {
        return (s << 5 | s >> 7) & 0xFFF;
    }

    private static void promise8() {
        SumSmith x = withText("123456789");
        Due.due("n 2", x.divided(2, 1, 0, 0, false, false), SumSmith.OUTSIDE);
        Due.due("n 33", x.divided(33, 1, 0, 0, false, false), SumSmith.OUTSIDE);
        Due.due("p 2^n", x.divided(3, 8, 0, 0, false, false), SumSmith.OUTSIDE);
        Due.due("p -1", x.divided(3, -1, 0, 0, false, false), SumSmith.OUTSIDE);
        Due.due("begin 2^n", x.divided(32, 1, 1L << 32, 0, false, false), SumSmith.OUTSIDE);
        Due.due("begin -1", x.divided(32, 1, -1, 0, false, false), SumSmith.OUTSIDE);
        Due.due("finish 2^n", x.divided(16, 1, 0, 65536, false, true), SumSmith.OUTSIDE);
        Due.due("finish -1", x.divided(16, 1, 0, -1, false, true), SumSmith.OUTSIDE);
        Due.due("none was made", x.about(0), 0);
        Due.due("8 bits", x.divided(8, 0x07, 0, 0, false, false), 0);
        Due.due("16 bits", x.divided(16, 0x1021, 0xFFFF, 0, false, false), 1);
        Due.due("32 bits", x.divided(32, 0x04C11DB7L, 0xFFFFFFFFL, 0xFFFFFFFFL, false, false), 2);
        Due.due("32 bits, low", x.divided(32, 0x04C11DB7L, 0xFFFFFFFFL, 0xFFFFFFFFL, true, true), 3);
        Due.due("3 bits", x.divided(3, 7, 7, 7, false, true), 4);
        Due.due("check of 8 bits", x.sum(0), 0xF4);
        Due.due("check of 16 bits", x.sum(1), 0x29B1);
        Due.due("check of 32 bits", x.sum(2), 0xFC891918L);
        Due.due("check of 32 bits, low", x.sum(3), Integer.toUnsignedLong(Integer.reverse(0xCBF43926)));
        Due.due("kind of a divided one", x.kind(0), 4);
        Due.due("kind of a mending one", x.kind(3), 5);
        x.cut(0);
        Due.due("of no bytes", x.sum(1), 0xFFFF);
        Due.due("of no bytes, finish", x.sum(2), 0);
    }

    private static void promise9() {
        SumSmith x = new SumSmith();
        Due.due("square(1)", x.square(1), SumSmith.OUTSIDE);
        Due.due("square(11)", x.square(11), SumSmith.OUTSIDE);
        Due.due("square(2), none told", x.square(2), SumSmith.NOT);
        int[] cells = {0, 1, 2, 2, 0, 1, 1, 2, 0};
        for (int cell : cells) {
            x.tell(cell);
        }
        Due.due("square(2) of nine", x.square(2), SumSmith.NOT);
        Due.due("square(4) of nine", x.square(4), SumSmith.NOT);
        Due.due("square(11) of nine", x.square(11), SumSmith.OUTSIDE);
        Due.due("nine are told yet", x.about(2), 9);
        Due.due("square(3)", x.square(3), 0);
        Due.due("none is told", x.about(2), 0);
        x.put(1);
        Due.due("cell (0, 1)", x.sum(0), 1);
        x.put(0);
        Due.due("cell (1, 0)", x.sum(0), 2);
        x.put(2);
        Due.due("cell (2, 2)", x.sum(0), 0);
        tellTo(x, 3, 1);
        x.tell(2);
        Due.due("a cell is not below q", x.square(2), SumSmith.NOT);
        Due.due("four are told yet", x.untell(), 4);
        x.tell(2);
        tellTo(x, 3, 1);
        Due.due("the first cell is not below q", x.square(2), SumSmith.NOT);
        x.untell();
        tellTo(x, 100, 9);
        Due.due("square(10)", x.square(10), 1);
        Due.due("kind", x.kind(1), 6);
    }

    private static void promise10() {
        SumSmith x = new SumSmith();
        x.tell(1);
        x.weighted(5);
        x.plain(5);
        Due.due("kind(0)", x.kind(0), 2);
        Due.due("kind(1)", x.kind(1), 0);
        Due.due("kind(2)", x.kind(2), SumSmith.UNKNOWN);
        Due.due("kind(-1)", x.kind(-1), SumSmith.UNKNOWN);
        Due.due("kind(MAX)", x.kind(Integer.MAX_VALUE), SumSmith.UNKNOWN);
        Due.due("kind(MIN)", x.kind(Integer.MIN_VALUE), SumSmith.UNKNOWN);
    }

    private static void fullIsLast() {
        SumSmith x = new SumSmith();
        for (int k = 0; k < 16; k++) {
            Due.due("sum " + k, x.plain(2 + k), k);
        }
        Due.due("plain, full", x.plain(2), SumSmith.FULL);
        Due.due("plain, outside", x.plain(1), SumSmith.OUTSIDE);
        Due.due("twofold, full", x.twofold(2), SumSmith.FULL);
        Due.due("twofold, outside", x.twofold(1), SumSmith.OUTSIDE);
        Due.due("turning, full", x.turning(8, 0), SumSmith.FULL);
        Due.due("turning, outside", x.turning(8, 8), SumSmith.OUTSIDE);
        Due.due("divided, full", x.divided(8, 7, 0, 0, false, false), SumSmith.FULL);
        Due.due("divided, outside", x.divided(8, 256, 0, 0, false, false), SumSmith.OUTSIDE);
        Due.due("weighted, not", x.weighted(10), SumSmith.NOT);
        Due.due("square, not", x.square(2), SumSmith.NOT);
        tellTo(x, 4, 1);
        Due.due("weighted, full", x.weighted(10), SumSmith.FULL);
        Due.due("square, full", x.square(2), SumSmith.FULL);
        Due.due("told is as it was", x.about(2), 4);
        Due.due("weighted, outside", x.weighted(1), SumSmith.OUTSIDE);
        Due.due("square, outside", x.square(1), SumSmith.OUTSIDE);
        Due.due("sums", x.about(0), 16);
        Due.due("kind(15)", x.kind(15), 0);
        Due.due("kind(16)", x.kind(16), SumSmith.UNKNOWN);
    }

    private static void tellTo(SumSmith x, int many, int v) {
        for (int i = 0; i < many; i++) {
            x.tell(v);
        }
    }

    private static SumSmith withRow(int... bytes) {
        SumSmith x = new SumSmith();
        for (int b : bytes) {
            x.put(b);
        }
        return x;
    }

    private static SumSmith withText(String text) {
        SumSmith x = new SumSmith();
        for (char c : text.toCharArray()) {
            x.put(c);
        }
        return x;
    }
}
