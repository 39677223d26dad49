/**
 * Runs of chance calls (the same ones each time) on a SumSmith and on a PlainSmith: all answers must be alike.
 * A run ends ahead of its 512th call, since what later calls answer is free.
 */
public final class RandomRunsTest {
    private static final int RUNS = 700, MOST_CALLS_FOR_SUMS = 200, MOST_CALLS = 400;

    private long seed;
    private int calls = 0;
    private final SumSmith x = new SumSmith();
    private final PlainSmith y = new PlainSmith();
    private final String run;

    private RandomRunsTest(int number) {
        seed = 7919L * number + 1;
        run = "run " + number + ": ";
    }

    public static void main(String[] args) {
        for (int number = 0; number < RUNS && !Due.anyWrong(); number++) {
            new RandomRunsTest(number).go();
        }
        Due.end();
    }

    private void go() {
        int sumsWanted = pick(20);
        for (int made = 0; made < sumsWanted && calls < MOST_CALLS_FOR_SUMS; made++) {
            makeSum();
        }
        while (calls < MOST_CALLS && !Due.anyWrong()) {
            step();
        }
    }

    private int pick(int below) {
        seed = seed * 6364136223846793005L + 1442695040888963407L;
        return (int) Math.floorMod(seed >>> 33, (long) below);
    }

    private long pickBits(int bits) {
        long high = pick(1 << 16);
        long low = pick(1 << 16);
        return (high << 16 | low) & (1L << bits) - 1;
    }

    /** Mostly a number from least to most, now and then one beside them. */
    private int about(int least, int most) {
        switch (pick(24)) {
            case 0:
                return least - 1;
            case 1:
                return most + 1;
            case 2:
                return pick(2) == 0 ? Integer.MIN_VALUE : Integer.MAX_VALUE;
            case 3:
                return least;
            case 4:
                return most;
            default:
                return least + pick(most - least + 1);
        }
    }

    private int someSum() {
        return about(0, Math.max(0, y.about(0) - 1));
    }

    private void check(String call, long got, long want) {
        calls++;
        Due.due(run + call, got, want);
    }

    private int modulus() {
        int[] liked = {2, 3, 10, 11, 97, 127, 128, 255, 256, 257, 65535, 65536};
        return pick(3) == 0 ? about(2, 65536) : liked[pick(liked.length)];
    }

    private void tellSome(int many, int below) {
        for (int i = 0; i < many; i++) {
            int v = pick(60) == 0 ? about(0, 65535) : pick(below);
            check("tell(" + v + ")", x.tell(v), y.tell(v));
        }
    }

    private void makeSum() {
        switch (pick(7)) {
            case 0: {
                int m = modulus();
                check("plain(" + m + ")", x.plain(m), y.plain(m));
                break;
            }
            case 1: {
                int m = modulus();
                check("twofold(" + m + ")", x.twofold(m), y.twofold(m));
                break;
            }
            case 2: {
                tellSome(pick(4) == 0 ? pick(15) : 1 + pick(3), pick(2) == 0 ? 12 : 65536);
                int m = modulus();
                check("weighted(" + m + ")", x.weighted(m), y.weighted(m));
                break;
            }
            case 3: {
                int n = about(8, 32);
                int t = about(0, Math.max(0, Math.min(n, 32) - 1));
                check("turning(" + n + ", " + t + ")", x.turning(n, t), y.turning(n, t));
                break;
            }
            case 6: {
                int q = about(2, 10);
                check("untell()", x.untell(), y.untell());
                tellSome(pick(10) == 0 ? pick(102) : Math.max(0, Math.min(10, q)) * Math.max(0, Math.min(10, q)),
                    Math.max(1, Math.min(q, 10)));
                check("square(" + q + ")", x.square(q), y.square(q));
                break;
            }
            default:
                makeDivided();
        }
    }

    private void makeDivided() {
        int n = about(3, pick(2) == 0 ? 32 : 10);
        int bits = Math.max(3, Math.min(n, 32));
        long p = pick(30) == 0 ? 1L << bits : pickBits(bits) | pick(4) / 2;
        long begin = pick(40) == 0 ? -1 : pick(2) == 0 ? 0 : pickBits(bits);
        long finish = pick(40) == 0 ? 1L << bits : pick(2) == 0 ? 0 : pickBits(bits);
        boolean low = pick(2) == 0;
        boolean mends = pick(2) == 0;
        check("divided(" + n + ", " + p + ", " + begin + ", " + finish + ", " + low + ", " + mends + ")",
            x.divided(n, p, begin, finish, low, mends), y.divided(n, p, begin, finish, low, mends));
    }

    private void step() {
        switch (pick(16)) {
            case 0:
                if (pick(8) == 0) {
                    makeSum();
                } else {
                    kinds();
                }
                break;
            case 1:
            case 2:
            case 3:
                theRow();
                break;
            case 4:
            case 5:
                theSum();
                break;
            case 6:
            case 7:
            case 8:
                fromSums();
                break;
            case 9:
                slips();
                break;
            case 10:
            case 11:
                aims();
                break;
            case 12:
            case 13:
                mends();
                break;
            case 14:
                dividedOnes();
                break;
            default:
                sizes();
        }
    }

    private void kinds() {
        int k = someSum();
        check("kind(" + k + ")", x.kind(k), y.kind(k));
        int what = about(0, 2);
        check("signs(" + k + ", " + what + ")", x.signs(k, what), y.signs(k, what));
    }

    private void theRow() {
        int size = y.about(1);
        int i = about(0, Math.max(0, size - 1));
        int b = pick(3) == 0 ? about(0, 255) : pick(4);
        switch (pick(8)) {
            case 0:
                check("set(" + i + ", " + b + ")", x.set(i, b), y.set(i, b));
                break;
            case 1:
                check("at(" + i + ")", x.at(i), y.at(i));
                break;
            case 2: {
                int n = pick(3) == 0 ? about(0, size) : size - pick(3);
                check("cut(" + n + ")", x.cut(n), y.cut(n));
                break;
            }
            default:
                for (int more = pick(4); more >= 0; more--) {
                    check("put(" + b + ")", x.put(b), y.put(b));
                }
        }
    }

    private void theSum() {
        int k = someSum();
        check("sum(" + k + ")", x.sum(k), y.sum(k));
        int kind = about(0, 6);
        check("trace(" + kind + ")", x.trace(kind), y.trace(kind));
    }

    private int[] someRow(int length) {
        int[] bytes = new int[length];
        for (int i = 0; i < length; i++) {
            bytes[i] = pick(256);
        }
        return bytes;
    }

    private int someLength(int least) {
        return pick(6) == 0 ? 1000 : least + pick(pick(3) == 0 ? 900 : 30);
    }

    private void fromSums() {
        int k = someSum();
        int kind = y.kind(k);
        if (kind < 0 || kind == 6) {
            check("joined(" + k + ")", x.joined(k, -1, -1, -1, -1), kind == 6 ? -4 : -2);
            check("other(" + k + ")", x.other(k, -1, -1, -1, -1, -1), kind == 6 ? -4 : -2);
            check("less(" + k + ")", x.less(k, -1, -1, -1), kind == 6 ? -4 : -2);
            return;
        }
        int[] one = someRow(someLength(0));
        int[] two = someRow(someLength(0));
        int[] bytes = someRow(someLength(1));
        int i = pick(bytes.length);
        int b = pick(256);
        long s = y.sumOf(k, bytes);
        check("joined(" + k + ", .., " + one.length + ", .., " + two.length + ")",
            x.joined(k, y.sumOf(k, one), one.length, y.sumOf(k, two), two.length), y.joined(k, one, two));
        check("other(" + k + ", " + s + ", " + bytes.length + ", " + i + ")",
            x.other(k, s, bytes.length, i, bytes[i], b), y.other(k, bytes, i, b));
        check("less(" + k + ", " + s + ", " + bytes.length + ")",
            x.less(k, s, bytes.length, bytes[0]), y.less(k, bytes));
        long odd = pickBits(32) << pick(3);
        if (!y.inBounds(k, odd)) {
            check("joined(" + k + ", " + odd + ")", x.joined(k, odd, 0, 0, 0), -3);
            check("joined(" + k + ", 0, 1, " + odd + ")", x.joined(k, 0, 1, odd, 0), -3);
            check("other(" + k + ", " + odd + ")", x.other(k, odd, 1, 0, 0, 0), -3);
            check("less(" + k + ", " + odd + ")", x.less(k, odd, 1, 0), -3);
        }
    }

    private void slips() {
        int k = someSum();
        int slip = about(0, 5);
        int bits = slip == 1 ? about(1, 8) : about(1, 3);
        int n = pick(12) == 0 ? about(1, 8) : 1 + pick(4);
        check("sees(" + k + ", " + slip + ", " + bits + ", " + n + ")", x.sees(k, slip, bits, n), y.sees(k, slip, bits, n));
        for (int i = -1; i < 9; i++) {
            check("passes(" + i + ", false)", x.passes(i, false), y.passes(i, false));
            check("passes(" + i + ", true)", x.passes(i, true), y.passes(i, true));
        }
    }

    private void aims() {
        for (int more = pick(5); more > 0; more--) {
            int place = about(0, Math.max(0, 8 * Math.min(y.about(1), 5) - 1));
            check("free(" + place + ")", x.free(place), y.free(place));
        }
        if (pick(8) == 0) {
            check("bind()", x.bind(), y.bind());
        }
        if (y.about(3) > 9 && pick(8) != 0) {
            return;
        }
        int k = someSum();
        long s = pick(2) == 0 ? pickBits(4) : pickBits(32) - 4;
        if (pick(2) == 0) {
            s = y.sum(k);
            check("sum(" + k + ")", x.sum(k), s);
        }
        check("aim(" + k + ", " + s + ")", x.aim(k, s), y.aim(k, s));
        for (int i = -1; i < 66; i++) {
            check("way(" + i + ")", x.way(i), y.way(i));
        }
    }

    private void mends() {
        int k = someSum();
        long s = pick(3) == 0 ? pickBits(32) - 2 : pickBits(5);
        int kind = y.kind(k);
        if ((kind == 4 || kind == 5) && pick(2) == 0) {
            s = y.sum(k);
            check("sum(" + k + ")", x.sum(k), s);
            s ^= 1L << pick(3);
        }
        check("mend(" + k + ", " + s + ")", x.mend(k, s), y.mend(k, s));
        for (int i = 0; i < y.about(1); i++) {
            check("at(" + i + ")", x.at(i), y.at(i));
        }
    }

    private void dividedOnes() {
        int k = someSum();
        int bytes = about(1, 64);
        int place = about(0, 8 * Math.max(1, Math.min(bytes, 64)) - 1);
        check("syndrome(" + k + ", " + place + ", " + bytes + ")", x.syndrome(k, place, bytes), y.syndrome(k, place, bytes));
        int n = pick(8) == 0 ? about(1, 6) : 1 + pick(3);
        check("weight(" + k + ", " + n + ")", x.weight(k, n), y.weight(k, n));
        for (int i = -1; i < 5; i++) {
            check("lightest(" + i + ")", x.lightest(i), y.lightest(i));
        }
        int bits = about(1, 4);
        check("count(" + k + ", " + bits + ", " + n + ")", x.count(k, bits, n), y.count(k, bits, n));
        check("period(" + k + ")", x.period(k), y.period(k));
        check("reach(" + k + ")", x.reach(k), y.reach(k));
    }

    private void sizes() {
        int what = about(0, 4);
        check("about(" + what + ")", x.about(what), y.about(what));
        if (pick(10) == 0) {
            check("untell()", x.untell(), y.untell());
        }
    }
}
