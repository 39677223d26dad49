/** Promises 19 to 21: slips that sums see or let pass, and squares. */
public final class SlipsTest {
    private static final int FLIP = 0, BURST = 1, BYTE = 2, SWAP = 3, APART = 4, TWIN = 5;

    private static final String DAMM = "0317598642" + "7092154863" + "4206871359" + "1750983426" + "6123045978"
        + "3674209581" + "5869720134" + "8945362017" + "9438617205" + "2581436790";

    public static void main(String[] args) {
        refusals();
        flips();
        bursts();
        byteSlips();
        slipsThatCannotBe();
        promise20();
        promise21();
        Due.end();
    }

    private static SumSmith smith() {
        SumSmith x = new SumSmith();
        x.plain(256);
        x.twofold(255);
        x.divided(16, 0x1021, 0xFFFF, 0, false, false);
        x.divided(8, 7, 0, 0, true, true);
        x.turning(8, 0);
        return x;
    }

    private static void first(SumSmith x, int[] before, int[] after) {
        Due.due("bytes of the first", x.about(4), before.length);
        for (int i = 0; i < before.length; i++) {
            Due.due("passes(" + i + ", false)", x.passes(i, false), before[i]);
            Due.due("passes(" + i + ", true)", x.passes(i, true), after[i]);
        }
    }

    private static int[] row(int... bytes) {
        return bytes;
    }

    private static void refusals() {
        SumSmith x = smith();
        x.tell(0);
        x.tell(1);
        x.tell(1);
        x.tell(0);
        x.square(2);
        Due.due("sees(6)", x.sees(6, -1, 0, 0), SumSmith.UNKNOWN);
        Due.due("sees(-1)", x.sees(-1, 0, 1, 1), SumSmith.UNKNOWN);
        Due.due("sees, a square", x.sees(5, -1, 0, 0), SumSmith.KIND);
        int[][] outside = {{-1, 1, 1}, {6, 1, 1}, {FLIP, 0, 1}, {FLIP, 4, 1}, {BURST, 0, 1}, {BURST, 9, 8},
            {FLIP, 1, 0}, {FLIP, 1, 9}, {BURST, 8, 9}, {BYTE, 1, 0}, {TWIN, 1, 9}, {SWAP, 1, -1}};
        for (int[] o : outside) {
            Due.due("sees(0, " + o[0] + ", " + o[1] + ", " + o[2] + ")", x.sees(0, o[0], o[1], o[2]), SumSmith.OUTSIDE);
        }
        Due.due("bits are not looked at", x.sees(0, BYTE, Integer.MIN_VALUE, 1), 1);
        Due.due("bits are not looked at, swap", x.sees(0, SWAP, 99, 1), 1);
        Due.due("none was kept", x.about(4), 0);
        Due.due("passes(0)", x.passes(0, true), SumSmith.UNKNOWN);
    }

    private static void flips() {
        SumSmith x = smith();
        Due.due("plain sees 1 bit", x.sees(0, FLIP, 1, 8), 1);
        Due.due("plain, 2 bits", x.sees(0, FLIP, 2, 3), 0);
        // bit 128 of 256: up and up is as good as up and down, and comes first
        first(x, row(0, 0, 0), row(128, 128, 0));
        Due.due("plain, 3 bits", x.sees(0, FLIP, 3, 2), 0);
        // 128 + 64 + 64; the second 64 is byte 1's
        first(x, row(0, 0), row(192, 64));
        Due.due("twofold, 2 bits", x.sees(1, FLIP, 2, 8), 1);
        Due.due("twofold, 3 bits", x.sees(1, FLIP, 3, 3), 0);
        Due.due("16 bits see 3 flips", x.sees(2, FLIP, 3, 8), 1);
        SumSmith y = new SumSmith();
        y.plain(65536);
        Due.due("no way but up and down", y.sees(0, FLIP, 2, 2), 0);
        first(y, row(0, 128), row(128, 0));
        Due.due("up, down, down", y.sees(0, FLIP, 3, 2), 0);
        first(y, row(64, 64), row(128, 0));
        SumSmith z = new SumSmith();
        z.plain(96);
        Due.due("up, down, up", z.sees(0, FLIP, 3, 1), 0);
        first(z, row(64), row(160));
        y.divided(3, 4, 0, 0, false, false);
        Due.due("one bit that is lost", y.sees(1, FLIP, 1, 1), 1);
        y.divided(3, 0, 5, 5, false, false);
        Due.due("p 0 sees none", y.sees(2, FLIP, 1, 2), 0);
        first(y, row(0, 0), row(128, 0));
        Due.due("p 0, three", y.sees(2, FLIP, 3, 1), 0);
        first(y, row(0), row(224));
    }

    private static void bursts() {
        SumSmith x = smith();
        for (int bits = 1; bits <= 8; bits++) {
            Due.due("16 bits see a burst of " + bits, x.sees(2, BURST, bits, 8), 1);
            Due.due("turning 8 sees a burst of " + bits, x.sees(4, BURST, bits, 8), 1);
        }
        SumSmith y = new SumSmith();
        y.divided(3, 3, 0, 0, false, false);
        Due.due("x^3 + x + 1 is a burst of 4", y.sees(0, BURST, 4, 2), 0);
        first(y, row(0, 0), row(0b10110000, 0));
        Due.due("a burst of 5", y.sees(0, BURST, 5, 2), 0);
        first(y, row(0, 0), row(0b11101000, 0));
        Due.due("a burst of 3", y.sees(0, BURST, 3, 2), 1);
        Due.due("what was kept stays", y.passes(0, true), 0b11101000);
        SumSmith z = new SumSmith();
        z.plain(65536);
        Due.due("plain sees bursts of 1", z.sees(0, BURST, 1, 8), 1);
        Due.due("plain sees bursts of 8", z.sees(0, BURST, 8, 1), 1);
        Due.due("plain, a burst of 8 over two bytes", z.sees(0, BURST, 8, 2), 1);
        z.plain(3);
        Due.due("modulo 3, two in a row", z.sees(1, BURST, 2, 1), 0);
        first(z, row(0), row(192));
        z.plain(5);
        Due.due("modulo 5, three in a row", z.sees(2, BURST, 3, 1), 0);
        first(z, row(0), row(160));
        z.plain(13);
        Due.due("modulo 13, four in a row", z.sees(3, BURST, 4, 1), 0);
        // turned between: 01 is tried ahead of 10; 8 - 2 + 1 and its like are not 13
        first(z, row(0), row(0b11010000));
        z.plain(7);
        Due.due("modulo 7, ends of four", z.sees(4, BURST, 4, 1), 0);
        // with none between, 128 - 16 = 112 = 16 * 7
        first(z, row(16), row(128));
        z.tell(1);
        z.tell(0);
        z.weighted(65536);
        Due.due("a burst that has only the last places", z.sees(5, BURST, 8, 2), 0);
        first(z, row(0, 0), row(0, 129));
    }

    private static void byteSlips() {
        SumSmith x = smith();
        Due.due("twofold(255), a byte", x.sees(1, BYTE, 0, 2), 0);
        first(x, row(0, 0), row(255, 0));
        Due.due("twofold(255), a swap", x.sees(1, SWAP, 0, 3), 0);
        first(x, row(0, 255, 0), row(255, 0, 0));
        Due.due("plain, apart", x.sees(0, APART, 0, 4), 0);
        first(x, row(0, 0, 1, 0), row(1, 0, 0, 0));
        Due.due("plain, twins", x.sees(0, TWIN, 0, 3), 0);
        first(x, row(0, 0, 0), row(128, 128, 0));
        Due.due("turning by 0, twins", x.sees(4, TWIN, 0, 2), 0);
        first(x, row(0, 0), row(1, 1));
        Due.due("16 bits see bytes", x.sees(2, BYTE, 0, 8), 1);
        Due.due("16 bits see swaps", x.sees(2, SWAP, 0, 8), 1);
        Due.due("16 bits see those apart", x.sees(2, APART, 0, 8), 1);
        Due.due("16 bits see twins", x.sees(2, TWIN, 0, 8), 1);
        SumSmith y = new SumSmith();
        y.tell(1);
        y.tell(1);
        y.tell(3);
        y.tell(0);
        y.weighted(65536);
        Due.due("weights 1, 1", y.sees(0, SWAP, 0, 8), 0);
        first(y, row(0, 1, 0, 0, 0, 0, 0, 0), row(1, 0, 0, 0, 0, 0, 0, 0));
        Due.due("weight 0", y.sees(0, BYTE, 0, 5), 0);
        first(y, row(0, 0, 0, 0, 0), row(0, 0, 0, 1, 0));
        Due.due("weight 0 is not reached", y.sees(0, BYTE, 0, 3), 1);
        Due.due("weights i, i + 2", y.sees(0, APART, 0, 4), 1);
        y.tell(2);
        y.tell(3);
        y.tell(6);
        y.weighted(10);
        Due.due("weights 2 and 6 of 10", y.sees(1, APART, 0, 3), 0);
        first(y, row(0, 0, 5), row(5, 0, 0));
        Due.due("weights 2 and 3, twins", y.sees(1, TWIN, 0, 3), 0);
        first(y, row(0, 0, 0), row(2, 2, 0));
        y.divided(3, 3, 7, 7, true, false);
        Due.due("3 bits, low", y.sees(2, BYTE, 0, 1), 0);
        // the first byte that divides: bits taken from the lowest, 1011 turned round
        first(y, row(0), row(0b1101));
    }

    private static void slipsThatCannotBe() {
        SumSmith x = smith();
        for (int k = 0; k < 5; k++) {
            Due.due("swap of one byte", x.sees(k, SWAP, 0, 1), 1);
            Due.due("twins of one byte", x.sees(k, TWIN, 0, 1), 1);
            Due.due("apart of two bytes", x.sees(k, APART, 0, 2), 1);
        }
        Due.due("none was kept", x.about(4), 0);
    }

    private static void promise20() {
        SumSmith x = smith();
        x.sees(0, SWAP, 0, 3);
        first(x, row(0, 1, 0), row(1, 0, 0));
        Due.due("passes(3)", x.passes(3, false), SumSmith.UNKNOWN);
        Due.due("passes(-1)", x.passes(-1, true), SumSmith.UNKNOWN);
        Due.due("one that is seen", x.sees(0, BYTE, 0, 8), 1);
        first(x, row(0, 1, 0), row(1, 0, 0));
        Due.due("one that is refused", x.sees(0, BYTE, 0, 9), SumSmith.OUTSIDE);
        first(x, row(0, 1, 0), row(1, 0, 0));
        x.sees(1, BYTE, 0, 1);
        first(x, row(0), row(255));
        Due.due("passes(1) of a shorter one", x.passes(1, false), SumSmith.UNKNOWN);
        Due.due("the row is another one", x.about(1), 0);
    }

    private static void square(SumSmith x, int q, String cells) {
        for (char cell : cells.toCharArray()) {
            x.tell(cell - '0');
        }
        x.square(q);
    }

    private static void signsDue(SumSmith x, int k, int singles, int swaps, int twins) {
        Due.due("signs(" + k + ", 0)", x.signs(k, 0), singles);
        Due.due("signs(" + k + ", 1)", x.signs(k, 1), swaps);
        Due.due("signs(" + k + ", 2)", x.signs(k, 2), twins);
    }

    private static void squaresThatFailInOneRow() {
        SumSmith x = new SumSmith();
        square(x, 2, "0001");
        square(x, 3, "000022101");
        square(x, 3, "011001000");
        square(x, 3, "000012012");
        square(x, 3, "011012022");
        Due.due("singles fail in row 0", x.signs(0, 0), 0);
        Due.due("swaps fail in row 0", x.signs(1, 1), 0);
        Due.due("swaps fail in the last row", x.signs(2, 1), 0);
        Due.due("twins fail in row 0", x.signs(3, 2), 0);
        Due.due("twins fail in the last row", x.signs(4, 2), 0);
    }

    private static void promise21() {
        SumSmith x = new SumSmith();
        square(x, 10, DAMM);
        square(x, 3, "012120201");
        square(x, 2, "0110");
        square(x, 2, "0011");
        square(x, 2, "0101");
        square(x, 3, "021210102");
        x.plain(10);
        signsDue(x, 0, 1, 1, 0);
        signsDue(x, 1, 1, 0, 1);
        signsDue(x, 2, 1, 0, 0);
        signsDue(x, 3, 0, 0, 0);
        signsDue(x, 4, 0, 1, 1);
        // (s, a) is 2 s + 2 a modulo 3: swaps come to s + a + 2 b, twins to s
        signsDue(x, 5, 1, 1, 0);
        squaresThatFailInOneRow();
        for (char digit : "572".toCharArray()) {
            x.put(digit - '0');
        }
        Due.due("Damm's sign of 572", x.sum(0), 4);
        Due.due("signs(0, 3)", x.signs(0, 3), SumSmith.OUTSIDE);
        Due.due("signs(0, -1)", x.signs(0, -1), SumSmith.OUTSIDE);
        Due.due("signs, plain", x.signs(6, -1), SumSmith.KIND);
        Due.due("signs(7)", x.signs(7, -1), SumSmith.UNKNOWN);
    }
}
