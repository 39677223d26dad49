import java.util.ArrayList;
import java.util.Arrays;
import java.util.List;

/**
 * The document once more, in its plainest form: every answer comes from whole rows and their sums, or from all
 * sets, one by one. It is slow, and shares no code with SumSmith, which is tested against it.
 */
final class PlainSmith {
    private static final int NONE = -1, UNKNOWN = -2, OUTSIDE = -3, KIND = -4, NOT = -5, FULL = -6;

    /** How one SUM was made; which fields count depends on its kind. */
    private static final class Made {
        int kind;
        int m;
        int n;
        int t;
        long p;
        long begin;
        long finish;
        boolean low;
        int q;
        int[] numbers = new int[0];
    }

    private final List<Made> sums = new ArrayList<>();
    private final List<Integer> told = new ArrayList<>();
    private final List<Integer> row = new ArrayList<>();
    private final List<Integer> places = new ArrayList<>();
    private final int[] asked = new int[7];
    private List<Integer> ways = new ArrayList<>();
    private List<Integer> light = new ArrayList<>();
    private int[] before = new int[0];
    private int[] after = new int[0];

    int tell(int v) {
        if (v < 0 || v > 65535) {
            return OUTSIDE;
        }
        if (told.size() == 100) {
            return FULL;
        }
        told.add(v);
        return told.size();
    }

    int untell() {
        int had = told.size();
        told.clear();
        return had;
    }

    private int add(Made made) {
        if (sums.size() == 16) {
            return FULL;
        }
        sums.add(made);
        return sums.size() - 1;
    }

    private int addFromTold(Made made) {
        made.numbers = ints(told);
        int answer = add(made);
        if (answer >= 0) {
            told.clear();
        }
        return answer;
    }

    private static Made of(int kind, int m) {
        Made made = new Made();
        made.kind = kind;
        made.m = m;
        return made;
    }

    int plain(int m) {
        return m < 2 || m > 65536 ? OUTSIDE : add(of(0, m));
    }

    int twofold(int m) {
        return m < 2 || m > 65536 ? OUTSIDE : add(of(1, m));
    }

    int weighted(int m) {
        if (m < 2 || m > 65536) {
            return OUTSIDE;
        }
        return told.isEmpty() || told.size() > 12 ? NOT : addFromTold(of(2, m));
    }

    int turning(int n, int t) {
        if (n < 8 || n > 32 || t < 0 || t >= n) {
            return OUTSIDE;
        }
        Made made = of(3, 0);
        made.n = n;
        made.t = t;
        return add(made);
    }

    int divided(int n, long p, long begin, long finish, boolean low, boolean mends) {
        if (n < 3 || n > 32) {
            return OUTSIDE;
        }
        for (long x : new long[] {p, begin, finish}) {
            if (x < 0 || x >= 1L << n) {
                return OUTSIDE;
            }
        }
        return add(dividing(mends ? 5 : 4, n, p, begin, finish, low));
    }

    private static Made dividing(int kind, int n, long p, long begin, long finish, boolean low) {
        Made made = of(kind, 0);
        made.n = n;
        made.p = p;
        made.begin = begin;
        made.finish = finish;
        made.low = low;
        return made;
    }

    int square(int q) {
        if (q < 2 || q > 10) {
            return OUTSIDE;
        }
        if (told.size() != q * q || told.stream().anyMatch(v -> v >= q)) {
            return NOT;
        }
        Made made = of(6, 0);
        made.q = q;
        return addFromTold(made);
    }

    private boolean has(int k) {
        return k >= 0 && k < sums.size();
    }

    int kind(int k) {
        return has(k) ? sums.get(k).kind : UNKNOWN;
    }

    int put(int b) {
        if (b < 0 || b > 255) {
            return OUTSIDE;
        }
        if (row.size() == 64) {
            return FULL;
        }
        row.add(b);
        return row.size();
    }

    int set(int i, int b) {
        if (i < 0 || i >= row.size()) {
            return UNKNOWN;
        }
        return b < 0 || b > 255 ? OUTSIDE : row.set(i, b);
    }

    int at(int i) {
        return i < 0 || i >= row.size() ? UNKNOWN : row.get(i);
    }

    int cut(int n) {
        if (n < 0 || n > row.size()) {
            return OUTSIDE;
        }
        int had = row.size();
        while (row.size() > n) {
            row.remove(row.size() - 1);
        }
        return had - n;
    }

    private static int[] ints(List<Integer> list) {
        return list.stream().mapToInt(Integer::intValue).toArray();
    }

    long sum(int k) {
        if (!has(k)) {
            return UNKNOWN;
        }
        Made made = sums.get(k);
        asked[made.kind]++;
        if (made.kind == 5) {
            asked[4]++;
        }
        return sumOf(made, ints(row));
    }

    private static long sumOf(Made made, int[] bytes) {
        switch (made.kind) {
            case 0:
                return Arrays.stream(bytes).sum() % made.m;
            case 1:
                return twofoldOf(made.m, bytes);
            case 2:
                return weightedOf(made, bytes);
            case 3:
                return turningOf(made, bytes);
            case 6:
                return squareOf(made, bytes);
            default:
                return dividedOf(made, bytes);
        }
    }

    private static long twofoldOf(int m, int[] bytes) {
        long a = 0;
        long b = 0;
        for (int x : bytes) {
            a = (a + x) % m;
            b = (b + a) % m;
        }
        return 65536 * b + a;
    }

    private static long weightedOf(Made made, int[] bytes) {
        long total = 0;
        for (int i = 0; i < bytes.length; i++) {
            total = (total + (long) made.numbers[i % made.numbers.length] * bytes[i]) % made.m;
        }
        return total;
    }

    private static long turningOf(Made made, int[] bytes) {
        long s = 0;
        for (int x : bytes) {
            for (int turn = 0; turn < made.t; turn++) {
                long highest = s >> (made.n - 1);
                s = (s * 2 + highest) % (1L << made.n);
            }
            s ^= x;
        }
        return s;
    }

    private static long squareOf(Made made, int[] bytes) {
        int s = 0;
        for (int x : bytes) {
            if (x >= made.q) {
                return NOT;
            }
            s = made.numbers[made.q * s + x];
        }
        return s;
    }

    private static long dividedOf(Made made, int[] bytes) {
        long s = made.begin;
        for (int x : bytes) {
            for (int j = 0; j < 8; j++) {
                long bit = x >> (made.low ? j : 7 - j) & 1;
                s = doubled(made, s, bit);
            }
        }
        return s ^ made.finish;
    }

    private static long doubled(Made made, long s, long bit) {
        long x = (s >> (made.n - 1)) ^ bit;
        long twice = s * 2 % (1L << made.n);
        return x == 1 ? twice ^ made.p : twice;
    }

    private static boolean bounded(Made made, long s) {
        if (s < 0) {
            return false;
        }
        if (made.kind == 0 || made.kind == 2) {
            return s < made.m;
        }
        if (made.kind == 1) {
            return s % 65536 < made.m && s / 65536 < made.m;
        }
        return s < 1L << made.n;
    }

    /** Why a sum can't be worked on from sums alone, or 0. */
    private int refusal(int k) {
        if (!has(k)) {
            return UNKNOWN;
        }
        return sums.get(k).kind == 6 ? KIND : 0;
    }

    // joined, other and less take rows where SumSmith takes sums, so that sums of whole rows can answer.

    long joined(int k, int[] first, int[] second) {
        int refused = refusal(k);
        if (refused != 0) {
            return refused;
        }
        Made made = sums.get(k);
        if (made.kind == 2 && first.length % made.numbers.length != 0) {
            return NOT;
        }
        int[] both = Arrays.copyOf(first, first.length + second.length);
        System.arraycopy(second, 0, both, first.length, second.length);
        return sumOf(made, both);
    }

    long other(int k, int[] bytes, int i, int b) {
        int refused = refusal(k);
        if (refused != 0) {
            return refused;
        }
        int[] changed = bytes.clone();
        changed[i] = b;
        return sumOf(sums.get(k), changed);
    }

    long less(int k, int[] bytes) {
        int refused = refusal(k);
        if (refused != 0) {
            return refused;
        }
        Made made = sums.get(k);
        if (made.kind == 2 && made.numbers.length != 1) {
            return NOT;
        }
        return sumOf(made, Arrays.copyOfRange(bytes, 1, bytes.length));
    }

    boolean inBounds(int k, long s) {
        return bounded(sums.get(k), s);
    }

    long sumOf(int k, int[] bytes) {
        return sumOf(sums.get(k), bytes);
    }

    int sees(int k, int slip, int bits, int n) {
        int refused = refusal(k);
        if (refused != 0) {
            return refused;
        }
        if (slip < 0 || slip > 5 || n < 1 || n > 8 || bits < 1 && slip < 2
            || slip == 0 && bits > 3 || slip == 1 && bits > 8) {
            return OUTSIDE;
        }
        Made made = sums.get(k);
        boolean passes = slip == 0 ? flip(made, new ArrayList<>(), bits, n)
            : slip == 1 ? burst(made, bits, n) : bytes(made, slip, n);
        return passes ? 0 : 1;
    }

    private boolean flip(Made made, List<Integer> chosen, int bits, int n) {
        if (chosen.size() == bits) {
            return turnedPasses(made, chosen, n);
        }
        int from = chosen.isEmpty() ? 0 : chosen.get(chosen.size() - 1) + 1;
        for (int place = from; place < 8 * n; place++) {
            chosen.add(place);
            if (flip(made, chosen, bits, n)) {
                return true;
            }
            chosen.remove(chosen.size() - 1);
        }
        return false;
    }

    private boolean burst(Made made, int bits, int n) {
        for (int first = 0; first + bits <= 8 * n; first++) {
            for (int pattern = 0; pattern < 1 << bits; pattern++) {
                boolean ends = (pattern & 1) == 1 && pattern >> (bits - 1) == 1;
                if (ends && turnedPasses(made, placesOf(pattern, bits, first), n)) {
                    return true;
                }
            }
        }
        return false;
    }

    private static List<Integer> placesOf(int pattern, int bits, int first) {
        List<Integer> found = new ArrayList<>();
        for (int j = 0; j < bits; j++) {
            if ((pattern >> (bits - 1 - j) & 1) == 1) {
                found.add(first + j);
            }
        }
        return found;
    }

    private boolean turnedPasses(Made made, List<Integer> turned, int n) {
        int size = turned.size();
        for (int bitsBefore = 0; bitsBefore < 1 << size; bitsBefore++) {
            int[] one = new int[n];
            int[] two = new int[n];
            for (int d = 0; d < size; d++) {
                int place = turned.get(d);
                boolean wasOne = (bitsBefore >> (size - 1 - d) & 1) == 1;
                (wasOne ? one : two)[place / 8] += 128 >> place % 8;
            }
            if (keepsIfSame(made, one, two)) {
                return true;
            }
        }
        return false;
    }

    private boolean bytes(Made made, int slip, int n) {
        int second = slip == 2 ? 0 : slip == 4 ? 2 : 1;
        for (int i = 0; i + second < n; i++) {
            for (int a = 0; a < 256; a++) {
                for (int b = 0; b < 256; b++) {
                    int[] one = new int[n];
                    int[] two = new int[n];
                    one[i] = a;
                    two[i] = b;
                    one[i + second] = slip == 2 || slip == 5 ? a : b;
                    two[i + second] = slip == 2 || slip == 5 ? b : a;
                    if (a != b && keepsIfSame(made, one, two)) {
                        return true;
                    }
                }
            }
        }
        return false;
    }

    private boolean keepsIfSame(Made made, int[] one, int[] two) {
        if (sumOf(made, one) != sumOf(made, two)) {
            return false;
        }
        before = one;
        after = two;
        return true;
    }

    int passes(int i, boolean behind) {
        if (i < 0 || i >= before.length) {
            return UNKNOWN;
        }
        return behind ? after[i] : before[i];
    }

    int signs(int k, int what) {
        if (!has(k)) {
            return UNKNOWN;
        }
        if (sums.get(k).kind != 6) {
            return KIND;
        }
        if (what < 0 || what > 2) {
            return OUTSIDE;
        }
        int q = sums.get(k).q;
        int[] c = sums.get(k).numbers;
        for (int s = 0; s < q; s++) {
            for (int a = 0; a < q; a++) {
                for (int b = 0; b < q; b++) {
                    boolean same = what == 0 ? c[q * s + a] == c[q * s + b] || c[q * a + s] == c[q * b + s]
                        : what == 1 ? c[q * c[q * s + a] + b] == c[q * c[q * s + b] + a]
                        : c[q * c[q * s + a] + a] == c[q * c[q * s + b] + b];
                    if (a != b && same) {
                        return 0;
                    }
                }
            }
        }
        return 1;
    }

    /** Why a sum is refused by the calls for divided ones, or 0. */
    private int refusalOfOthers(int k, boolean mends) {
        if (!has(k)) {
            return UNKNOWN;
        }
        int kind = sums.get(k).kind;
        return kind == 5 || kind == 4 && !mends ? 0 : KIND;
    }

    private static long syndromeOf(Made made, int place, int n) {
        int[] bytes = new int[n];
        long was = sumOf(made, bytes);
        bytes[place / 8] = 128 >> place % 8;
        return was ^ sumOf(made, bytes);
    }

    private static long[] syndromesOf(Made made, int n) {
        long[] found = new long[8 * n];
        for (int place = 0; place < found.length; place++) {
            found[place] = syndromeOf(made, place, n);
        }
        return found;
    }

    long syndrome(int k, int place, int n) {
        int refused = refusalOfOthers(k, false);
        if (refused != 0) {
            return refused;
        }
        return n < 1 || n > 64 || place < 0 || place >= 8 * n ? OUTSIDE : syndromeOf(sums.get(k), place, n);
    }

    /** All sets of so many places whose syndromes come to 0, in the document's order. */
    private static void collect(long[] syndromes, int left, int from, List<Integer> chosen, List<List<Integer>> sets) {
        if (left == 0) {
            long total = 0;
            for (int place : chosen) {
                total ^= syndromes[place];
            }
            if (total == 0) {
                sets.add(new ArrayList<>(chosen));
            }
            return;
        }
        for (int place = from; place < syndromes.length; place++) {
            chosen.add(place);
            collect(syndromes, left - 1, place + 1, chosen, sets);
            chosen.remove(chosen.size() - 1);
        }
    }

    private static List<List<Integer>> setsOf(Made made, int bits, int n) {
        List<List<Integer>> sets = new ArrayList<>();
        collect(syndromesOf(made, n), bits, 0, new ArrayList<>(), sets);
        return sets;
    }

    int weight(int k, int n) {
        int refused = refusalOfOthers(k, false);
        if (refused != 0) {
            return refused;
        }
        if (n < 1 || n > 6) {
            return OUTSIDE;
        }
        for (int bits = 1; bits <= 4; bits++) {
            List<List<Integer>> sets = setsOf(sums.get(k), bits, n);
            if (!sets.isEmpty()) {
                light = sets.get(0);
                return bits;
            }
        }
        return NONE;
    }

    int lightest(int i) {
        if (i < 0 || i > 3) {
            return OUTSIDE;
        }
        return i < light.size() ? light.get(i) : NONE;
    }

    int count(int k, int bits, int n) {
        int refused = refusalOfOthers(k, false);
        if (refused != 0) {
            return refused;
        }
        return bits < 1 || bits > 4 || n < 1 || n > 6 ? OUTSIDE : setsOf(sums.get(k), bits, n).size();
    }

    int period(int k) {
        int refused = refusalOfOthers(k, false);
        if (refused != 0) {
            return refused;
        }
        long s = 1;
        for (int times = 1; times <= 65535; times++) {
            s = doubled(sums.get(k), s, 0);
            if (s == 1) {
                return times;
            }
        }
        return NONE;
    }

    int free(int place) {
        if (place < 0 || place >= 8 * row.size() || places.contains(place)) {
            return OUTSIDE;
        }
        if (places.size() == 16) {
            return FULL;
        }
        places.add(place);
        return places.size();
    }

    int bind() {
        int had = places.size();
        places.clear();
        return had;
    }

    int aim(int k, long s) {
        int refused = refusalOfOthers(k, false);
        if (refused != 0) {
            return refused;
        }
        Made made = sums.get(k);
        if (!bounded(made, s)) {
            return OUTSIDE;
        }
        List<Integer> found = new ArrayList<>();
        for (int way = 0; way < 1 << places.size(); way++) {
            int[] bytes = ints(row);
            if (turnAll(bytes, way) && sumOf(made, bytes) == s) {
                found.add(way);
            }
        }
        ways = found;
        return found.size();
    }

    private boolean turnAll(int[] bytes, int way) {
        for (int j = 0; j < places.size(); j++) {
            if ((way >> j & 1) == 1) {
                int place = places.get(j);
                if (place >= 8 * bytes.length) {
                    return false;
                }
                bytes[place / 8] ^= 128 >> place % 8;
            }
        }
        return true;
    }

    int way(int i) {
        return i < 0 || i >= ways.size() || i >= 64 ? NONE : ways.get(i);
    }

    int best(int n, int k) {
        if (n < 3 || n > 8 || k < 1 || k > 3) {
            return OUTSIDE;
        }
        int best = 0;
        int bestWeight = 0;
        int bestCount = 0;
        for (int p = 1; p < 1 << n; p += 2) {
            Made made = dividing(4, n, p, 0, 0, false);
            int weight = 1;
            int count = setsOf(made, 1, k).size();
            while (count == 0 && weight < 5) {
                weight++;
                count = weight < 5 ? setsOf(made, weight, k).size() : 0;
            }
            if (weight > bestWeight || weight == bestWeight && count < bestCount) {
                best = p;
                bestWeight = weight;
                bestCount = count;
            }
        }
        return best;
    }

    int mend(int k, long s) {
        int refused = refusalOfOthers(k, true);
        if (refused != 0) {
            return refused;
        }
        Made made = sums.get(k);
        if (!bounded(made, s)) {
            return OUTSIDE;
        }
        long d = sumOf(made, ints(row)) ^ s;
        if (d == 0) {
            return 0;
        }
        for (int place = 0; place < 8 * row.size(); place++) {
            if (syndromeOf(made, place, row.size()) == d) {
                row.set(place / 8, row.get(place / 8) ^ 128 >> place % 8);
                return 1 + place;
            }
        }
        for (int bit = 0; bit < made.n; bit++) {
            if (d == 1L << bit) {
                return 1000 + bit;
            }
        }
        return NONE;
    }

    int reach(int k) {
        int refused = refusalOfOthers(k, true);
        if (refused != 0) {
            return refused;
        }
        int greatest = 0;
        for (int n = 1; n <= 64; n++) {
            long[] sorted = syndromesOf(sums.get(k), n);
            Arrays.sort(sorted);
            boolean good = true;
            for (int i = 0; i < sorted.length; i++) {
                good &= Long.bitCount(sorted[i]) > 1 && (i == 0 || sorted[i] != sorted[i - 1]);
            }
            greatest = good ? n : greatest;
        }
        return greatest;
    }

    int trace(int kind) {
        return kind < 0 || kind > 6 ? OUTSIDE : asked[kind];
    }

    int about(int what) {
        int[] sizes = {sums.size(), row.size(), told.size(), places.size(), before.length};
        return what < 0 || what > 4 ? OUTSIDE : sizes[what];
    }
}
