import java.util.Arrays;

/** Promises 19 to 21, and the words of "Terms" on SLIPS: every sentence that names a boundary case, one by one. */
public final class SlipsEdgesTest {
    private static final int FLIP = 0, BURST = 1, BYTE = 2, SWAP = 3, APART = 4, TWIN = 5;

    private static final String DAMM = "0317598642" + "7092154863" + "4206871359" + "1750983426" + "6123045978"
        + "3674209581" + "5869720134" + "8945362017" + "9438617205" + "2581436790";

    public static void main(String[] args) {
        seesTakesSlips0To5();
        seesTakesFlipsOf1To3();
        seesTakesBurstsOf1To8();
        seesDoesNotLookAtBitsElse();
        seesTakes1To8Bytes();
        seesWhereNoSuchSlipCanBe();
        seesAllOrNone();
        seesRefusesInOrder();
        seesThatAnswers1KeepsNothing();
        alikeBytesAreNoSlip();
        flipsByPlacesThenByBits();
        flipsAtTheLastPlace();
        flipsInTheLastByteAlone();
        burstsByFirstPlaceThenByBetweenThenByBits();
        burstsAtTheLastPlaces();
        bytesByPlaceThenByB();
        bytesAtTheLastPlace();
        passesOfNone();
        passesOfEachByte();
        passesOfTheOneThatWasKeptLast();
        signsTakes0To2();
        signsRefusesInOrder();
        signsOfAllSquaresOf2And3();
        signsOfSquaresOf10();
        Due.end();
    }

    /** A sum that nothing changes. */
    private static SumSmith blind() {
        SumSmith x = new SumSmith();
        x.divided(3, 0, 5, 6, false, false);
        return x;
    }

    private static SumSmith ofWeights(int... weights) {
        SumSmith x = new SumSmith();
        States.tell(x, weights);
        x.weighted(65536);
        return x;
    }

    private static SumSmith ofPolynomial(int n, long p) {
        SumSmith x = new SumSmith();
        x.divided(n, p, 0, 0, false, false);
        return x;
    }

    private static SumSmith ofPlain(int m) {
        SumSmith x = new SumSmith();
        x.plain(m);
        return x;
    }

    private static int[] row(int n, int... placeAndByte) {
        int[] bytes = new int[n];
        for (int j = 0; j + 1 < placeAndByte.length; j += 2) {
            bytes[placeAndByte[j]] = placeAndByte[j + 1];
        }
        return bytes;
    }

    /** The sum 0 lets the slip pass, and the first that passes is this one. */
    private static void first(String what, SumSmith x, int slip, int bits, int[] before, int[] after) {
        Due.due(what + ": sees", x.sees(0, slip, bits, before.length), 0);
        Due.due(what + ": bytes", x.about(4), before.length);
        for (int i = 0; i < before.length; i++) {
            Due.due(what + ": before, byte " + i, x.passes(i, false), before[i]);
            Due.due(what + ": behind, byte " + i, x.passes(i, true), after[i]);
        }
    }

    // ---- promise 19

    private static void seesTakesSlips0To5() {
        Due.promise(19, "a SLIP (0 .. 5). OUTSIDE");
        for (int slip = 0; slip <= 5; slip++) {
            Due.due("slip " + slip, blind().sees(0, slip, 1, 8), 0);
        }
        for (int slip : new int[] {-1, 6, 7, Integer.MIN_VALUE, Integer.MAX_VALUE}) {
            Refused.due("slip " + slip, States::some, x -> x.sees(States.PLAIN, slip, 1, 8), SumSmith.OUTSIDE);
        }
    }

    private static void seesTakesFlipsOf1To3() {
        Due.promise(19, "bits: k of 0. OUTSIDE");
        for (int bits = 1; bits <= 3; bits++) {
            Due.due("a flip of " + bits, blind().sees(0, FLIP, bits, 1), 0);
        }
        for (int bits : new int[] {0, -1, 4, 8, Integer.MIN_VALUE, Integer.MAX_VALUE}) {
            Refused.due("a flip of " + bits, States::some, x -> x.sees(States.PLAIN, FLIP, bits, 8), SumSmith.OUTSIDE);
        }
    }

    private static void seesTakesBurstsOf1To8() {
        Due.promise(19, "bits: k of 1. OUTSIDE");
        for (int bits = 1; bits <= 8; bits++) {
            Due.due("a burst of " + bits, blind().sees(0, BURST, bits, 1), 0);
        }
        for (int bits : new int[] {0, -1, 9, 64, Integer.MIN_VALUE, Integer.MAX_VALUE}) {
            Refused.due("a burst of " + bits, States::some, x -> x.sees(States.PLAIN, BURST, bits, 8), SumSmith.OUTSIDE);
        }
    }

    private static void seesDoesNotLookAtBitsElse() {
        Due.promise(19, "bits: k of 0, 1, else not looked at");
        for (int slip = BYTE; slip <= TWIN; slip++) {
            for (int bits : new int[] {0, -1, 4, 9, Integer.MIN_VALUE, Integer.MAX_VALUE}) {
                Due.due("slip " + slip + ", bits " + bits, blind().sees(0, slip, bits, 3), 0);
            }
        }
    }

    private static void seesTakes1To8Bytes() {
        Due.promise(19, "rows of n bytes (1 .. 8). OUTSIDE");
        for (int slip = 0; slip <= 5; slip++) {
            int which = slip;
            Due.due("slip " + slip + ", n 8", blind().sees(0, slip, 1, 8), 0);
            Due.due("slip " + slip + ", n 1", Math.min(0, blind().sees(0, slip, 1, 1)), 0);
            for (int n : new int[] {0, -1, 9, Integer.MIN_VALUE, Integer.MAX_VALUE}) {
                Refused.due("slip " + slip + ", n " + n, States::some, x -> x.sees(States.PLAIN, which, 1, n),
                    SumSmith.OUTSIDE);
            }
        }
    }

    private static void seesWhereNoSuchSlipCanBe() {
        Due.promise(19, "1 .. 8; also where no such SLIP can be: 1");
        Due.due("swap of 1 byte", blind().sees(0, SWAP, 0, 1), 1);
        Due.due("swap of 2 bytes", blind().sees(0, SWAP, 0, 2), 0);
        Due.due("apart of 1 byte", blind().sees(0, APART, 0, 1), 1);
        Due.due("apart of 2 bytes", blind().sees(0, APART, 0, 2), 1);
        Due.due("apart of 3 bytes", blind().sees(0, APART, 0, 3), 0);
        Due.due("twins of 1 byte", blind().sees(0, TWIN, 0, 1), 1);
        Due.due("twins of 2 bytes", blind().sees(0, TWIN, 0, 2), 0);
        Refused.changesNothing("swap of 1 byte", States::some, x -> x.sees(States.PLAIN, SWAP, 0, 1));
        Refused.changesNothing("apart of 2 bytes", States::some, x -> x.sees(States.PLAIN, APART, 0, 2));
    }

    private static void seesAllOrNone() {
        Due.promise(19, "Whether a SUM sees a SLIP: 1; 0");
        SumSmith x = ofPolynomial(32, 0x04C11DB7L);
        for (int n = 1; n <= 8; n++) {
            for (int slip = 0; slip <= 5; slip++) {
                for (int bits = 1; bits <= (slip == FLIP ? 3 : slip == BURST ? 8 : 1); bits++) {
                    boolean none = n == 1 && (slip == SWAP || slip == TWIN) || n <= 2 && slip == APART;
                    Due.due("32 bits, slip " + slip + ", " + bits + " bits, n " + n, x.sees(0, slip, bits, n), 1);
                    Due.due("no bits, slip " + slip + ", " + bits + " bits, n " + n,
                        blind().sees(0, slip, bits, n), none ? 1 : 0);
                }
            }
        }
    }

    private static void seesRefusesInOrder() {
        Due.promise(19, "UNKNOWN; KIND: a SQUARE; OUTSIDE");
        Refused.due("sees(0) of none", States::fresh, x -> x.sees(0, FLIP, 1, 1), SumSmith.UNKNOWN);
        for (int k : new int[] {-1, States.NO_SUM, Integer.MIN_VALUE, Integer.MAX_VALUE}) {
            Refused.due("sees(" + k + ")", States::some, x -> x.sees(k, FLIP, 1, 1), SumSmith.UNKNOWN);
            Refused.due("sees(" + k + "), OUTSIDE", States::some, x -> x.sees(k, 6, 0, 9), SumSmith.UNKNOWN);
        }
        Refused.due("a SQUARE", States::some, x -> x.sees(States.SQUARE, FLIP, 1, 1), SumSmith.KIND);
        Refused.due("a SQUARE, OUTSIDE", States::some, x -> x.sees(States.SQUARE, 6, 0, 9), SumSmith.KIND);
        for (int k = States.PLAIN; k <= States.MENDING; k++) {
            Due.due("sees(" + k + ") is no SQUARE", Math.min(0, States.eightSums().sees(k, BYTE, 0, 1)), 0);
        }
    }

    private static void seesThatAnswers1KeepsNothing() {
        Due.promise(19, "1; 0: THE FIRST that PASSES is kept");
        Due.due("16 bits see a byte", States.some().sees(States.DIVIDED, BYTE, 0, 8), 1);
        Refused.changesNothing("sees, 1", States::some, x -> x.sees(States.DIVIDED, BYTE, 0, 8));
        Refused.changesNothing("sees a flip, 1", States::some, x -> x.sees(States.DIVIDED, FLIP, 3, 8));
        Refused.changesNothing("sees a burst, 1", States::some, x -> x.sees(States.DIVIDED, BURST, 8, 8));
        SumSmith x = new SumSmith();
        x.divided(16, 0x1021, 0, 0, false, false);
        x.sees(0, BYTE, 0, 8);
        Due.due("none was ever kept", x.about(4), 0);
    }

    // ---- what a SLIP is, and which is THE FIRST

    private static void alikeBytesAreNoSlip() {
        Due.terms("one byte is another; two neighbours, unlike, change places; two neighbours, alike, are both another");
        Due.due("a byte that stays", ofPlain(65536).sees(0, BYTE, 0, 8), 1);
        Due.due("alike ones that change places", ofWeights(1, 2).sees(0, SWAP, 0, 8), 1);
        Due.due("alike ones apart", ofWeights(1, 2, 4, 8).sees(0, APART, 0, 8), 1);
        Due.due("twins that stay", ofWeights(1, 2).sees(0, TWIN, 0, 8), 1);
        // 65535 is as good as -1: twins undo each other, a swap counts twice
        Due.due("twins of weights 1 and -1", ofWeights(1, 65535).sees(0, TWIN, 0, 2), 0);
        Due.due("a swap of weights 1 and -1", ofWeights(1, 65535).sees(0, SWAP, 0, 2), 1);
    }

    private static void flipsByPlacesThenByBits() {
        Due.terms("FLIP: by its PLACES, rising, the first one first; then by the k bits that are there before");
        first("of 1", blind(), FLIP, 1, row(8), row(8, 0, 128));
        first("of 2", blind(), FLIP, 2, row(8), row(8, 0, 192));
        first("of 3", blind(), FLIP, 3, row(8), row(8, 0, 224));
        // of period 7: 0 and 7 ahead of 0 and 14, and of 1 and 8
        first("the second place first", ofPolynomial(3, 3), FLIP, 2, row(2), row(2, 0, 129));
        first("up and up", ofPlain(256), FLIP, 2, row(2), row(2, 0, 128, 1, 128));
        first("up and down", ofPlain(257), FLIP, 2, row(2, 1, 128), row(2, 0, 128));
        first("up, up and up", ofPlain(224), FLIP, 3, row(1), row(1, 0, 224));
        first("up, up and down", ofPlain(160), FLIP, 3, row(1, 0, 32), row(1, 0, 192));
        first("up, down and up", ofPlain(96), FLIP, 3, row(1, 0, 64), row(1, 0, 160));
        first("all that can be: up, up and up", ofPlain(32), FLIP, 3, row(1), row(1, 0, 224));
        first("up, down and down", ofPlain(65536), FLIP, 3, row(2, 0, 64, 1, 64), row(2, 0, 128));
    }

    private static void flipsAtTheLastPlace() {
        Due.terms("FLIP, for rows of n bytes (1 .. 8) (the last PLACE of 8 bytes)");
        // of period 63: only places 0 and 63 are alike
        Due.due("two of 7 bytes", ofPolynomial(6, 3).sees(0, FLIP, 2, 7), 1);
        first("two of 8 bytes", ofPolynomial(6, 3), FLIP, 2, row(8), row(8, 0, 128, 7, 1));
        Due.due("three of 7 bytes", ofPolynomial(11, 547).sees(0, FLIP, 3, 7), 1);
        first("three of 8 bytes", ofPolynomial(11, 547), FLIP, 3, row(8), row(8, 0, 128, 5, 8, 7, 1));
        Due.due("one of 7 bytes", ofWeights(1, 1, 1, 1, 1, 1, 1, 0).sees(0, FLIP, 1, 7), 1);
        first("one of 8 bytes", ofWeights(1, 1, 1, 1, 1, 1, 1, 0), FLIP, 1, row(8), row(8, 7, 128));
    }

    private static void flipsInTheLastByteAlone() {
        Due.terms("FLIP: by its PLACES (where no three of the first 56 pass)");
        SumSmith x = new SumSmith();
        States.tell(x, 40823, 16741, 48614, 23497, 52114, 45250, 61765, 0);
        x.weighted(65521);
        for (int bits = 1; bits <= 3; bits++) {
            Due.due(bits + " of 7 bytes", x.sees(0, FLIP, bits, 7), 1);
            first(bits + " of 8 bytes", x, FLIP, bits, row(8), row(8, 7, 256 - (256 >> bits)));
        }
    }

    private static void burstsByFirstPlaceThenByBetweenThenByBits() {
        Due.terms("BURST: by its first PLACE; then by what is turned between; then by the bits of the turned ones");
        first("of 1 that one", blind(), BURST, 1, row(2), row(2, 0, 128));
        first("of 2", blind(), BURST, 2, row(2), row(2, 0, 192));
        for (int bits = 3; bits <= 8; bits++) {
            first("of " + bits + ", none between", blind(), BURST, bits, row(2), row(2, 0, 128 | 256 >> bits));
        }
        first("of 3, the one between", ofPlain(7), BURST, 3, row(1), row(1, 0, 0b11100000));
        for (int n = 3; n <= 7; n++) {
            // the only burst of n + 1 that passes is the polynomial itself
            first("all between, of " + (n + 1), ofPolynomial(n, (1 << n) - 1), BURST, n + 1, row(2),
                row(2, 0, 256 - (128 >> n)));
        }
        first("between 01, not 10", ofPlain(11), BURST, 4, row(1), row(1, 0, 0b10110000));
        first("between 10", ofPlain(13), BURST, 4, row(1), row(1, 0, 0b11010000));
        first("between 11", ofPlain(15), BURST, 4, row(1), row(1, 0, 0b11110000));
        first("between 00, up and down", ofPlain(7), BURST, 4, row(1, 0, 16), row(1, 0, 128));
        first("between 01, up, down and down", ofPlain(5), BURST, 4, row(1, 0, 0b00110000), row(1, 0, 128));
        Due.due("8 bits see bursts of 8", ofPolynomial(8, 0x1D).sees(0, BURST, 8, 8), 1);
        Due.due("7 bits see bursts of 7", ofPolynomial(7, 9).sees(0, BURST, 7, 8), 1);
        first("7 bits, some between", ofPolynomial(7, 9), BURST, 8, row(2), row(2, 0, 0b10001001));
    }

    private static void burstsAtTheLastPlaces() {
        Due.terms("BURST, of k PLACES in a row (the last ones of 8 bytes)");
        for (int bits = 1; bits <= 8; bits++) {
            SumSmith x = ofWeights(1, 1, 1, 1, 1, 1, 1, 0);
            Due.due("of " + bits + ", 7 bytes", x.sees(0, BURST, bits, 7), 1);
            first("of " + bits + ", 8 bytes", x, BURST, bits, row(8), row(8, 7, bits == 1 ? 128 : 128 | 256 >> bits));
        }
    }

    private static void bytesByPlaceThenByB() {
        Due.terms("Others: by the first byte's place; then by a, then by b");
        first("a byte", blind(), BYTE, 0, row(2), row(2, 0, 1));
        first("a swap", blind(), SWAP, 0, row(3, 1, 1), row(3, 0, 1));
        first("apart", blind(), APART, 0, row(4, 2, 1), row(4, 0, 1));
        first("twins", blind(), TWIN, 0, row(3), row(3, 0, 1, 1, 1));
        first("the greatest b of a byte", ofPlain(255), BYTE, 0, row(1), row(1, 0, 255));
        Due.due("no byte is 256", ofPlain(256).sees(0, BYTE, 0, 8), 1);
        first("the least b of a byte", ofPlain(2), BYTE, 0, row(1), row(1, 0, 2));
        SumSmith x = new SumSmith();
        States.tell(x, 1, 2);
        x.weighted(255);
        first("the greatest b of a swap", x, SWAP, 0, row(2, 1, 255), row(2, 0, 255));
        SumSmith y = new SumSmith();
        States.tell(y, 1, 1);
        y.weighted(510);
        first("the greatest b of twins", y, TWIN, 0, row(2), row(2, 0, 255, 1, 255));
        SumSmith z = new SumSmith();
        States.tell(z, 1, 1);
        z.weighted(512);
        Due.due("no twins are 256", z.sees(0, TWIN, 0, 8), 1);
    }

    private static void bytesAtTheLastPlace() {
        Due.terms("Others, for rows of n bytes (1 .. 8) (the last ones of 8 bytes)");
        SumSmith oneByte = ofWeights(1, 2, 3, 4, 5, 6, 7, 0);
        Due.due("a byte of 7", oneByte.sees(0, BYTE, 0, 7), 1);
        first("a byte of 8", oneByte, BYTE, 0, row(8), row(8, 7, 1));
        SumSmith swap = ofWeights(1, 2, 3, 4, 5, 6, 7, 7);
        Due.due("a swap of 7", swap.sees(0, SWAP, 0, 7), 1);
        first("a swap of 8", swap, SWAP, 0, row(8, 7, 1), row(8, 6, 1));
        SumSmith apart = ofWeights(1, 2, 3, 4, 5, 6, 7, 6);
        Due.due("apart of 7", apart.sees(0, APART, 0, 7), 1);
        first("apart of 8", apart, APART, 0, row(8, 7, 1), row(8, 5, 1));
        SumSmith twins = ofWeights(1, 2, 3, 4, 5, 6, 100, 65436);
        Due.due("twins of 7", twins.sees(0, TWIN, 0, 7), 1);
        first("twins of 8", twins, TWIN, 0, row(8), row(8, 6, 1, 7, 1));
    }

    // ---- promise 20

    private static void passesOfNone() {
        Due.promise(20, "UNKNOWN: there is none such");
        for (int i : new int[] {0, -1, 1, 7, 8, Integer.MIN_VALUE, Integer.MAX_VALUE}) {
            Refused.due("passes(" + i + ", false), none kept", States::fresh, x -> x.passes(i, false), SumSmith.UNKNOWN);
            Refused.due("passes(" + i + ", true), none kept", States::fresh, x -> x.passes(i, true), SumSmith.UNKNOWN);
        }
        for (int i : new int[] {-1, 4, 7, 8, Integer.MIN_VALUE, Integer.MAX_VALUE}) {
            Refused.due("passes(" + i + ", false) of 4", States::some, x -> x.passes(i, false), SumSmith.UNKNOWN);
            Refused.due("passes(" + i + ", true) of 4", States::some, x -> x.passes(i, true), SumSmith.UNKNOWN);
        }
        SumSmith x = blind();
        x.sees(0, BYTE, 0, 8);
        Due.due("passes(7) of 8", x.passes(7, true), 0);
        Due.due("passes(8) of 8", x.passes(8, true), SumSmith.UNKNOWN);
    }

    private static void passesOfEachByte() {
        Due.promise(20, "Byte i of the row of THE FIRST: before (after false), or behind it");
        SumSmith x = ofPlain(65536);
        first("a swap", x, SWAP, 0, row(2, 1, 1), row(2, 0, 1));
        Due.due("THE ROW is not that row", x.about(1), 0);
        x.put(9);
        Due.due("passes(0, false)", x.passes(0, false), 0);
        Due.due("passes(0, true)", x.passes(0, true), 1);
        Refused.changesNothing("passes(0, true)", States::some, y -> y.passes(0, true));
    }

    private static void passesOfTheOneThatWasKeptLast() {
        Due.promise(20, "THE FIRST that was kept last");
        SumSmith x = blind();
        x.divided(32, 0x04C11DB7L, 0, 0, false, false);
        first("8 bytes", x, FLIP, 3, row(8), row(8, 0, 224));
        first("2 bytes, nothing is left of 8", x, SWAP, 0, row(2, 1, 1), row(2, 0, 1));
        Due.due("passes(2) of 2", x.passes(2, true), SumSmith.UNKNOWN);
        first("8 bytes, nothing is left of 2", x, TWIN, 0, row(8), row(8, 0, 1, 1, 1));
        first("2 bytes, nothing is left of twins", x, SWAP, 0, row(2, 1, 1), row(2, 0, 1));
        first("8 bytes, nothing is left of a swap", x, FLIP, 1, row(8), row(8, 0, 128));
        Due.due("one that is seen", x.sees(1, TWIN, 0, 3), 1);
        Due.due("bytes", x.about(4), 8);
        Due.due("passes(0, true)", x.passes(0, true), 128);
        Due.due("one that is refused", x.sees(0, TWIN, 0, 9), SumSmith.OUTSIDE);
        Due.due("bytes", x.about(4), 8);
    }

    // ---- promise 21

    private static void signsTakes0To2() {
        Due.promise(21, "0 singles, 1 swaps, 2 twins (1, 0). OUTSIDE");
        for (int what = 0; what <= 2; what++) {
            Due.due("signs(.., " + what + ")", States.some().signs(States.SQUARE, what), what == 0 ? 1 : 0);
        }
        for (int what : new int[] {-1, 3, Integer.MIN_VALUE, Integer.MAX_VALUE}) {
            Refused.due("signs(.., " + what + ")", States::some, x -> x.signs(States.SQUARE, what), SumSmith.OUTSIDE);
        }
        Refused.changesNothing("signs(.., 2)", States::some, x -> x.signs(States.SQUARE, 2));
    }

    private static void signsRefusesInOrder() {
        Due.promise(21, "UNKNOWN; KIND; OUTSIDE");
        Refused.due("signs(0) of none", States::fresh, x -> x.signs(0, 0), SumSmith.UNKNOWN);
        for (int k : new int[] {-1, States.NO_SUM, Integer.MIN_VALUE, Integer.MAX_VALUE}) {
            Refused.due("signs(" + k + ", 0)", States::some, x -> x.signs(k, 0), SumSmith.UNKNOWN);
            Refused.due("signs(" + k + ", 3)", States::some, x -> x.signs(k, 3), SumSmith.UNKNOWN);
        }
        for (int k = States.PLAIN; k <= States.MENDING; k++) {
            int sum = k;
            Refused.due("signs(" + k + ", 0)", States::some, x -> x.signs(sum, 0), SumSmith.KIND);
            Refused.due("signs(" + k + ", -1)", States::some, x -> x.signs(sum, -1), SumSmith.KIND);
        }
    }

    private static void signsAsByThePlainModel(int q, int[] cells) {
        SumSmith x = new SumSmith();
        PlainSmith y = new PlainSmith();
        for (int cell : cells) {
            x.tell(cell);
            y.tell(cell);
        }
        x.square(q);
        y.square(q);
        for (int what = 0; what <= 2; what++) {
            Due.due("signs(.., " + what + ") of " + Arrays.toString(cells), x.signs(0, what), y.signs(0, what));
        }
    }

    private static void signsOfAllSquaresOf2And3() {
        Due.terms("A SQUARE SEES .. for all s, t, a, b (of 2 and 3 signs: all squares)");
        for (int q = 2; q <= 3; q++) {
            int squares = q == 2 ? 16 : 19683;
            for (int number = 0; number < squares; number++) {
                int[] cells = new int[q * q];
                int rest = number;
                for (int i = 0; i < cells.length; i++) {
                    cells[i] = rest % q;
                    rest /= q;
                }
                signsAsByThePlainModel(q, cells);
            }
        }
    }

    private static void signsOfSquaresOf10() {
        Due.terms("A SQUARE SEES .. for all s, t, a, b (of 10 signs: a good one, and each of its cells spoilt)");
        int[] cells = new int[100];
        for (int i = 0; i < 100; i++) {
            cells[i] = DAMM.charAt(i) - '0';
        }
        SumSmith x = new SumSmith();
        States.tell(x, cells);
        x.square(10);
        Due.due("singles", x.signs(0, 0), 1);
        Due.due("swaps", x.signs(0, 1), 1);
        for (int i = 0; i < 100; i++) {
            for (int more = 1; more <= 9; more++) {
                int[] spoilt = cells.clone();
                spoilt[i] = (spoilt[i] + more) % 10;
                signsAsByThePlainModel(10, spoilt);
            }
        }
    }
}
