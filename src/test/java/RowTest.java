/** Promises 11 to 15, 34 and 35: the row, its sums, and how often they were asked for. */
public final class RowTest {
    public static void main(String[] args) {
        promise11();
        promise12();
        promise13();
        promise14();
        promise15();
        promise34();
        promise35();
        Due.end();
    }

    private static void promise11() {
        SumSmith x = new SumSmith();
        Due.due("put(-1)", x.put(-1), SumSmith.OUTSIDE);
        Due.due("put(256)", x.put(256), SumSmith.OUTSIDE);
        for (int i = 1; i <= 64; i++) {
            Due.due("put " + i, x.put(i % 2 == 0 ? 255 : 0), i);
        }
        Due.due("put 65", x.put(0), SumSmith.FULL);
        Due.due("put 65, outside", x.put(256), SumSmith.OUTSIDE);
        Due.due("bytes", x.about(1), 64);
        Due.due("at(63)", x.at(63), 255);
        Due.due("at(62)", x.at(62), 0);
    }

    private static void promise12() {
        SumSmith x = new SumSmith();
        Due.due("set(0, 0) of none", x.set(0, 0), SumSmith.UNKNOWN);
        x.put(7);
        x.put(8);
        Due.due("set(1, 255)", x.set(1, 255), 8);
        Due.due("set(1, 0)", x.set(1, 0), 255);
        Due.due("set(2, 256)", x.set(2, 256), SumSmith.UNKNOWN);
        Due.due("set(-1, 0)", x.set(-1, 0), SumSmith.UNKNOWN);
        Due.due("set(0, 256)", x.set(0, 256), SumSmith.OUTSIDE);
        Due.due("set(0, -1)", x.set(0, -1), SumSmith.OUTSIDE);
        Due.due("at(0)", x.at(0), 7);
        Due.due("at(1)", x.at(1), 0);
    }

    private static void promise13() {
        SumSmith x = new SumSmith();
        Due.due("at(0) of none", x.at(0), SumSmith.UNKNOWN);
        x.put(200);
        Due.due("at(0)", x.at(0), 200);
        Due.due("at(1)", x.at(1), SumSmith.UNKNOWN);
        Due.due("at(-1)", x.at(-1), SumSmith.UNKNOWN);
        Due.due("at(MAX)", x.at(Integer.MAX_VALUE), SumSmith.UNKNOWN);
    }

    private static void promise14() {
        SumSmith x = new SumSmith();
        Due.due("cut(1) of none", x.cut(1), SumSmith.OUTSIDE);
        for (int i = 0; i < 5; i++) {
            x.put(10 + i);
        }
        Due.due("cut(6)", x.cut(6), SumSmith.OUTSIDE);
        Due.due("cut(-1)", x.cut(-1), SumSmith.OUTSIDE);
        Due.due("cut(5)", x.cut(5), 0);
        Due.due("cut(2)", x.cut(2), 3);
        Due.due("at(1)", x.at(1), 11);
        Due.due("at(2)", x.at(2), SumSmith.UNKNOWN);
        Due.due("put behind it", x.put(99), 3);
        Due.due("at(2) now", x.at(2), 99);
        Due.due("cut(0)", x.cut(0), 3);
        Due.due("bytes", x.about(1), 0);
    }

    private static void promise15() {
        SumSmith x = new SumSmith();
        Due.due("sum(0) of none", x.sum(0), SumSmith.UNKNOWN);
        x.plain(10);
        Due.due("sum of no bytes", x.sum(0), 0);
        Due.due("sum(-1)", x.sum(-1), SumSmith.UNKNOWN);
        Due.due("sum(1)", x.sum(1), SumSmith.UNKNOWN);
        int[] cells = {0, 1, 1, 0};
        for (int cell : cells) {
            x.tell(cell);
        }
        x.square(2);
        x.put(1);
        x.put(1);
        x.put(1);
        Due.due("square's sum", x.sum(1), 1);
        x.put(2);
        Due.due("square's sum, a byte is q", x.sum(1), SumSmith.NOT);
        x.set(3, 0);
        x.set(0, 255);
        Due.due("square's sum, a byte is beyond q", x.sum(1), SumSmith.NOT);
        Due.due("plain sum of the same", x.sum(0), 7);
    }

    private static void promise34() {
        SumSmith x = new SumSmith();
        x.plain(10);
        x.twofold(10);
        x.tell(1);
        x.weighted(10);
        x.turning(8, 1);
        x.divided(8, 7, 0, 0, false, false);
        x.divided(8, 7, 0, 0, false, true);
        int[] cells = {0, 1, 1, 0};
        for (int cell : cells) {
            x.tell(cell);
        }
        x.square(2);
        x.put(9);
        for (int k = 0; k < 7; k++) {
            for (int times = 0; times <= k; times++) {
                x.sum(k);
            }
        }
        int[] want = {1, 2, 3, 4, 5 + 6, 6, 7};
        traces(x, want);
        x.sum(7);
        x.sum(-1);
        x.free(0);
        x.aim(4, 0);
        x.mend(5, 0);
        x.weight(4, 1);
        x.syndrome(4, 0, 1);
        x.joined(0, 1, 1, 1, 1);
        x.sees(0, 2, 0, 1);
        traces(x, want);
        Due.due("trace(-1)", x.trace(-1), SumSmith.OUTSIDE);
        Due.due("trace(7)", x.trace(7), SumSmith.OUTSIDE);
    }

    private static void traces(SumSmith x, int[] want) {
        for (int kind = 0; kind < 7; kind++) {
            Due.due("trace(" + kind + ")", x.trace(kind), want[kind]);
        }
    }

    private static void promise35() {
        SumSmith x = new SumSmith();
        x.plain(256);
        x.twofold(255);
        x.put(1);
        x.put(2);
        x.put(3);
        x.tell(1);
        x.tell(1);
        x.tell(1);
        x.tell(1);
        x.free(1);
        x.free(2);
        x.free(3);
        x.free(4);
        x.free(5);
        Due.due("about(4), none kept", x.about(4), 0);
        Due.due("sees(0, 3, 0, 6)", x.sees(0, 3, 0, 6), 0);
        Due.due("about(0)", x.about(0), 2);
        Due.due("about(1)", x.about(1), 3);
        Due.due("about(2)", x.about(2), 4);
        Due.due("about(3)", x.about(3), 5);
        Due.due("about(4)", x.about(4), 6);
        Due.due("about(5)", x.about(5), SumSmith.OUTSIDE);
        Due.due("about(-1)", x.about(-1), SumSmith.OUTSIDE);
        x.cut(0);
        Due.due("about(3) of no row", x.about(3), 5);
    }
}
