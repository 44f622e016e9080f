import java.math.BigInteger;
import java.util.ArrayList;
import java.util.List;
import java.util.TreeSet;

/** The document's words told again in the slowest, plainest way, to hold TankNumbers against. */
final class Model {
    static final int NONE = -1, BAD = -2, NO = -3, FULL = -4;
    private static int[][] everyKey;

    private final List<int[]> finds = new ArrayList<>();
    private final List<int[]> words = new ArrayList<>();
    private final List<int[]> pairs = new ArrayList<>();
    private final int[][] fronts = {{1, 1}, {1, 1}, {1, 1}, {1, 1}};
    private final int[][] books = {
        {NONE, 0, 0}, {NONE, 0, 0}, {NONE, 0, 0}, {NONE, 0, 0}, {NONE, 0, 0}, {NONE, 0, 0}};
    private int most = 150;
    private BigInteger above = BigInteger.ZERO;
    private BigInteger below = BigInteger.ONE;
    private List<int[]> validKeys;

    private static boolean out(int v, int low, int high) {
        return v < low || v > high;
    }

    private void fraction(BigInteger a, BigInteger b) {
        BigInteger g = a.gcd(b);
        above = a.divide(g);
        below = b.divide(g);
    }

    private static BigInteger big(long v) {
        return BigInteger.valueOf(v);
    }

    int find(int maker, int number, int week, int mould, int front) {
        if (out(maker, 0, 5) || out(number, 0, 9999) || out(week, -1, 29) || out(mould, -1, 19) || out(front, 0, 3)) {
            return BAD;
        }
        if (finds.size() == 60) {
            return FULL;
        }
        finds.add(new int[] {maker, number, week, mould, front, 0});
        return finds.size() - 1;
    }

    int doubt(int find, boolean is) {
        if (out(find, 0, finds.size() - 1)) {
            return BAD;
        }
        int now = is ? 1 : 0;
        if (finds.get(find)[5] == now) {
            return NO;
        }
        finds.get(find)[5] = now;
        return 1;
    }

    private TreeSet<Integer> marks(int maker, int without) {
        TreeSet<Integer> set = new TreeSet<>();
        for (int i = 0; i < finds.size(); i++) {
            int[] f = finds.get(i);
            if (i != without && f[0] == maker && f[5] == 0) {
                set.add(f[1]);
            }
        }
        return set;
    }

    private int stepOf(int maker) {
        TreeSet<Integer> set = marks(maker, NONE);
        if (set.size() < 2) {
            return 0;
        }
        for (int s = set.last() - set.first(); s >= 1; s--) {
            boolean all = true;
            for (int a : set) {
                all = all && (a - set.first()) % s == 0;
            }
            if (all) {
                return s;
            }
        }
        return 0;
    }

    int numbers(int maker, int what) {
        if (out(maker, 0, 5) || out(what, 0, 2)) {
            return BAD;
        }
        if (what == 0) {
            return marks(maker, NONE).size();
        }
        int step = stepOf(maker);
        if (what == 1) {
            return step;
        }
        int bits = 0;
        for (int s = 1; s < 10; s++) {
            bits += step == 0 || step % s == 0 ? (int) Math.pow(2, s) : 0;
        }
        return bits;
    }

    private boolean badScheme(int maker, int first, int step) {
        return out(maker, 0, 5) || out(first, 0, 9999) || out(step, 1, 99);
    }

    private static boolean fit(TreeSet<Integer> set, int first, int step) {
        for (int a : set) {
            if (a < first || (a - first) % step != 0) {
                return false;
            }
        }
        return true;
    }

    int fits(int maker, int first, int step) {
        return badScheme(maker, first, step) ? BAD : fit(marks(maker, NONE), first, step) ? 1 : 0;
    }

    int most(int n) {
        if (out(n, 1, 150)) {
            return BAD;
        }
        int was = most;
        most = n;
        return was;
    }

    private static BigInteger choose(int n, int k) {
        BigInteger c = BigInteger.ONE;
        for (int i = 0; i < k; i++) {
            c = c.multiply(big(n - i)).divide(big(i + 1));
        }
        return c;
    }

    /** Whole weights of N = 0 .. MOST in the ratio of their ODDS; null where there are none. */
    private BigInteger[] weights(TreeSet<Integer> set, int first, int step) {
        if (!fit(set, first, step)) {
            return null;
        }
        int top = set.isEmpty() ? -1 : (set.last() - first) / step;
        if (top >= most) {
            return null;
        }
        BigInteger all = BigInteger.ONE;
        for (int n = Math.max(1, top + 1); n <= most; n++) {
            BigInteger c = choose(n, set.size());
            all = all.divide(all.gcd(c)).multiply(c);
        }
        BigInteger[] w = new BigInteger[most + 1];
        for (int n = 0; n <= most; n++) {
            w[n] = n > top && n > 0 ? all.divide(choose(n, set.size())) : BigInteger.ZERO;
        }
        return w;
    }

    private static BigInteger sum(BigInteger[] w, int from, int to) {
        BigInteger s = BigInteger.ZERO;
        for (int n = Math.max(0, from); n <= to && n < w.length; n++) {
            s = s.add(w[n]);
        }
        return s;
    }

    int odds(int maker, int first, int step, int n) {
        if (badScheme(maker, first, step) || out(n, 0, 200)) {
            return BAD;
        }
        BigInteger[] w = weights(marks(maker, NONE), first, step);
        if (w == null) {
            return NO;
        }
        fraction(n < w.length ? w[n] : BigInteger.ZERO, sum(w, 0, most));
        return 1;
    }

    int atLeast(int maker, int first, int step, int x) {
        if (badScheme(maker, first, step) || out(x, 0, 200)) {
            return BAD;
        }
        BigInteger[] w = weights(marks(maker, NONE), first, step);
        if (w == null) {
            return NO;
        }
        fraction(sum(w, x, most), sum(w, 0, most));
        return 1;
    }

    private int[] spanOf(BigInteger[] w, int a, int b) {
        BigInteger[] upTo = new BigInteger[w.length + 1];
        upTo[0] = BigInteger.ZERO;
        for (int n = 0; n < w.length; n++) {
            upTo[n + 1] = upTo[n].add(w[n]);
        }
        BigInteger limit = upTo[w.length].multiply(big(a));
        for (int width = 0; width < w.length; width++) {
            for (int x = 1; x + width < w.length; x++) {
                if (upTo[x + width + 1].subtract(upTo[x]).multiply(big(b)).compareTo(limit) >= 0) {
                    return new int[] {x, x + width};
                }
            }
        }
        return new int[] {-99, -99};
    }

    private static boolean badPart(int a, int b) {
        return a <= 0 || a > b || b > 1000;
    }

    int span(int maker, int first, int step, int a, int b, int what) {
        if (badScheme(maker, first, step) || badPart(a, b) || out(what, 0, 1)) {
            return BAD;
        }
        BigInteger[] w = weights(marks(maker, NONE), first, step);
        return w == null ? NO : spanOf(w, a, b)[what];
    }

    int told(int maker, int first, int step, int what) {
        if (badScheme(maker, first, step) || out(what, 0, 1)) {
            return BAD;
        }
        TreeSet<Integer> set = marks(maker, NONE);
        BigInteger[] w = weights(set, first, step);
        if (w == null) {
            return NO;
        }
        if (what == 0) {
            int best = 1;
            for (int n = 1; n <= most; n++) {
                best = w[n].compareTo(w[best]) > 0 ? n : best;
            }
            return best;
        }
        if (set.isEmpty()) {
            return 0;
        }
        int m = (set.last() - first) / step + 1;
        int k = set.size();
        return (m * k + m - k) / k;
    }

    int far(int find, int first, int step) {
        if (out(find, 0, finds.size() - 1) || badScheme(0, first, step)) {
            return BAD;
        }
        int[] f = finds.get(find);
        if (f[5] == 1 || !fit(marks(f[0], NONE), first, step)) {
            return NO;
        }
        TreeSet<Integer> others = marks(f[0], find);
        if (others.isEmpty()) {
            return 0;
        }
        BigInteger[] w = weights(others, first, step);
        if (w == null) {
            return NO;
        }
        return (f[1] - first) / step + 1 > spanOf(w, 99, 100)[1] ? 1 : 0;
    }

    int moulds(int maker, int what) {
        if (out(maker, 0, 5) || out(what, 0, 1)) {
            return BAD;
        }
        int t = 0;
        TreeSet<Integer> unlike = new TreeSet<>();
        for (int[] f : finds) {
            if (f[0] == maker && f[3] != NONE && f[5] == 0) {
                t++;
                unlike.add(f[3]);
            }
        }
        return what == 0 ? t : unlike.size();
    }

    int thereAre(int maker, int n) {
        if (out(maker, 0, 5) || out(n, 0, 30)) {
            return BAD;
        }
        int t = moulds(maker, 0);
        int d = moulds(maker, 1);
        BigInteger ahead = BigInteger.ZERO;
        BigInteger sum = BigInteger.ZERO;
        BigInteger all = BigInteger.ONE;
        for (int i = 2; i <= 20; i++) {
            all = all.divide(all.gcd(big(i))).multiply(big(i));
        }
        for (int i = Math.max(1, d); i <= 20; i++) {
            BigInteger w = all.divide(big(i)).pow(t);
            for (int j = 0; j < d; j++) {
                w = w.multiply(big(i - j));
            }
            sum = sum.add(w);
            ahead = i == n ? w : ahead;
        }
        fraction(ahead, sum);
        return 1;
    }

    int can(int moulds, int day, int days, int wheels, int weeks) {
        if (out(moulds, 1, 20) || out(day, 1, 9) || out(days, 1, 7) || out(wheels, 1, 99) || out(weeks, 0, 99)) {
            return BAD;
        }
        int made = 0;
        while ((made + 1) * wheels <= moulds * day * days * weeks) {
            made++;
        }
        return made;
    }

    private static boolean badRow(int length, int letters) {
        return out(length, 1, 4) || out(letters, 0, (int) Math.pow(6, length) - 1);
    }

    int word(int length, int letters, int low, int high) {
        if (badRow(length, letters) || out(low, 0, 9999) || out(high, 0, 9999) || low > high) {
            return BAD;
        }
        if (words.size() == 12) {
            return FULL;
        }
        words.add(new int[] {length, letters, low, high});
        validKeys = null;
        return words.size() - 1;
    }

    int wordless() {
        int gone = words.size();
        words.clear();
        validKeys = null;
        return gone;
    }

    private static int[][] allKeys() {
        if (everyKey == null) {
            List<int[]> list = new ArrayList<>();
            for (int code = 0; code < 1000000; code++) {
                int[] key = new int[6];
                int rest = code;
                int used = 0;
                for (int i = 0; i < 6; i++) {
                    key[i] = rest % 10;
                    used |= 1 << key[i];
                    rest /= 10;
                }
                if (Integer.bitCount(used) == 6) {
                    list.add(key);
                }
            }
            everyKey = list.toArray(new int[0][]);
        }
        return everyKey;
    }

    private static int value(int[] key, int length, int letters) {
        int v = 0;
        for (int i = length - 1; i >= 0; i--) {
            v = v * 10 + key[letters / (int) Math.pow(6, i) % 6];
        }
        return v;
    }

    private List<int[]> valid() {
        if (validKeys == null) {
            validKeys = new ArrayList<>();
            for (int[] key : allKeys()) {
                boolean all = true;
                for (int i = 0; i < words.size() && all; i++) {
                    int[] w = words.get(i);
                    all = !out(value(key, w[0], w[1]), w[2], w[3]);
                }
                if (all) {
                    validKeys.add(key);
                }
            }
        }
        return validKeys;
    }

    int keys() {
        return valid().size();
    }

    int may(int letter) {
        if (out(letter, 0, 5)) {
            return BAD;
        }
        int bits = 0;
        for (int[] key : valid()) {
            bits |= 1 << key[letter];
        }
        return bits;
    }

    int reads(int length, int letters, int what) {
        if (badRow(length, letters) || out(what, 0, 1)) {
            return BAD;
        }
        int best = NONE;
        for (int[] key : valid()) {
            int v = value(key, length, letters);
            if (best == NONE || (what == 0 ? v < best : v > best)) {
                best = v;
            }
        }
        return best;
    }

    int runs(int maker, int what) {
        if (out(maker, 0, 5) || out(what, 0, 1)) {
            return BAD;
        }
        List<int[]> dated = new ArrayList<>();
        for (int[] f : finds) {
            if (f[0] == maker && f[5] == 0 && f[2] != NONE) {
                dated.add(f);
            }
        }
        dated.sort((p, q) -> p[2] != q[2] ? p[2] - q[2] : p[1] - q[1]);
        int runs = dated.isEmpty() ? 0 : 1;
        int began = NONE;
        for (int i = 1; i < dated.size(); i++) {
            if (dated.get(i)[1] < dated.get(i - 1)[1]) {
                runs++;
                began = began == NONE ? dated.get(i)[2] : began;
            }
        }
        return what == 0 ? runs : began;
    }

    private List<Integer> datedIn(int maker, int weeks) {
        List<Integer> list = new ArrayList<>();
        for (int[] f : finds) {
            if (f[0] == maker && f[5] == 0 && !out(f[2], 0, weeks - 1)) {
                list.add(f[2]);
            }
        }
        return list;
    }

    private static int[] gapOf(List<Integer> dated, int weeks) {
        for (int g = weeks; g > 0; g--) {
            for (int from = 0; from + g <= weeks; from++) {
                boolean free = true;
                for (int w : dated) {
                    free = free && out(w, from, from + g - 1);
                }
                if (free) {
                    return new int[] {g, from};
                }
            }
        }
        return new int[] {0, NONE};
    }

    int gap(int maker, int weeks, int what) {
        if (out(maker, 0, 5) || out(weeks, 1, 30) || out(what, 0, 1)) {
            return BAD;
        }
        List<Integer> dated = datedIn(maker, weeks);
        return out(dated.size(), 1, 12) ? NO : gapOf(dated, weeks)[what];
    }

    int chance(int maker, int weeks) {
        if (out(maker, 0, 5) || out(weeks, 1, 30)) {
            return BAD;
        }
        List<Integer> dated = datedIn(maker, weeks);
        if (out(dated.size(), 1, 12)) {
            return NO;
        }
        int t = dated.size();
        int g = gapOf(dated, weeks)[0];
        BigInteger all = big(weeks).pow(t);
        BigInteger ways = all.bitLength() < 15 ? listed(weeks, t, g) : all.subtract(bySets(weeks, t, g));
        fraction(ways, all);
        return 1;
    }

    /** Every way to date t finds, one by one. */
    private static BigInteger listed(int weeks, int t, int g) {
        int all = (int) Math.round(Math.pow(weeks, t));
        long with = 0;
        for (int code = 0; code < all; code++) {
            List<Integer> dated = new ArrayList<>();
            for (int i = 0, rest = code; i < t; i++, rest /= weeks) {
                dated.add(rest % weeks);
            }
            with += gapOf(dated, weeks)[0] >= g ? 1 : 0;
        }
        return big(with);
    }

    /** Ways without such a gap: sets of j weeks that leave none, times ways to meet all j of them. */
    private static BigInteger bySets(int weeks, int t, int g) {
        BigInteger sum = BigInteger.ZERO;
        for (int j = 1; j <= t; j++) {
            BigInteger onto = BigInteger.ZERO;
            for (int i = 0; i <= j; i++) {
                BigInteger term = choose(j, i).multiply(big(j - i).pow(t));
                onto = i % 2 == 0 ? onto.add(term) : onto.subtract(term);
            }
            sum = sum.add(onto.multiply(freeSplits(weeks - j, j + 1, g)));
        }
        return sum;
    }

    /** Ways to split so many free weeks in so many stretches, each below g. */
    private static BigInteger freeSplits(int free, int stretches, int g) {
        if (free < 0 || g == 0) {
            return BigInteger.ZERO;
        }
        BigInteger sum = BigInteger.ZERO;
        for (int i = 0; i <= stretches && i * g <= free; i++) {
            BigInteger term = choose(stretches, i).multiply(choose(free - i * g + stretches - 1, stretches - 1));
            sum = i % 2 == 0 ? sum.add(term) : sum.subtract(term);
        }
        return sum;
    }

    int said(int agent, int said, int so) {
        if (out(agent, 0, 5) || out(said, 0, 9999) || out(so, 0, 9999)) {
            return BAD;
        }
        if (pairs.size() == 20) {
            return FULL;
        }
        pairs.add(new int[] {agent, said, so});
        return pairs.size();
    }

    private int[] sums(int agent) {
        int[] s = new int[4];
        for (int[] p : pairs) {
            if (p[0] == agent) {
                s[0]++;
                s[1] += p[1];
                s[2] += p[2];
                s[3] += Math.max(p[1], p[2]) - Math.min(p[1], p[2]);
            }
        }
        return s;
    }

    int agent(int agent, int what) {
        if (out(agent, 0, 5) || out(what, 0, 1)) {
            return BAD;
        }
        int[] s = sums(agent);
        if (s[0] == 0 || what == 0 && s[1] == 0) {
            return NO;
        }
        fraction(big(what == 0 ? s[2] : s[3]), big(what == 0 ? s[1] : s[0]));
        return 1;
    }

    int putRight(int agent, int x) {
        if (out(agent, 0, 5) || out(x, 0, 9999)) {
            return BAD;
        }
        int[] s = sums(agent);
        if (s[1] == 0) {
            return NO;
        }
        fraction(big(s[2]).multiply(big(x)), big(s[1]));
        return 1;
    }

    int front(int front, int a, int b) {
        if (out(front, 0, 3) || badPart(a, b)) {
            return BAD;
        }
        fronts[front][0] = a;
        fronts[front][1] = b;
        return 1;
    }

    int lost(int front) {
        if (out(front, -1, 3)) {
            return BAD;
        }
        BigInteger a = BigInteger.ZERO;
        BigInteger b = BigInteger.ONE;
        for (int[] f : finds) {
            if (f[5] == 0 && (front == NONE || f[4] == front)) {
                a = a.multiply(big(fronts[f[4]][0])).add(b.multiply(big(fronts[f[4]][1])));
                b = b.multiply(big(fronts[f[4]][0]));
            }
        }
        fraction(a, b);
        return 1;
    }

    int book(int maker, int many, int first, int step) {
        if (badScheme(maker, first, step) || many != NONE && out(many, 1, 150)) {
            return -10;
        }
        int was = books[maker][0];
        books[maker] = new int[] {many, first, step};
        return was;
    }

    int held(int a, int b, int what) {
        if (badPart(a, b) || out(what, 0, 1)) {
            return BAD;
        }
        int[] met = new int[2];
        for (int maker = 0; maker < 6; maker++) {
            int[] k = books[maker];
            BigInteger[] w = k[0] == NONE ? null : weights(marks(maker, NONE), k[1], k[2]);
            if (w != null) {
                int[] s = spanOf(w, a, b);
                met[out(k[0], s[0], s[1]) ? 1 : 0]++;
            }
        }
        return met[what];
    }

    private static List<Integer> limbs(BigInteger v) {
        List<Integer> list = new ArrayList<>();
        for (BigInteger rest = v; rest.signum() > 0; rest = rest.shiftRight(30)) {
            list.add(rest.intValue() & 0x3fffffff);
        }
        return list;
    }

    int sign(int what) {
        return out(what, 0, 2) ? BAD : what == 0 ? above.signum() : limbs(what == 1 ? above : below).size();
    }

    int limb(int which, int i) {
        if (out(which, 0, 1) || i < 0) {
            return BAD;
        }
        List<Integer> list = limbs(which == 0 ? above : below);
        return i < list.size() ? list.get(i) : NONE;
    }

    int count(int what) {
        int doubted = 0;
        for (int[] f : finds) {
            doubted += f[5];
        }
        int told = 0;
        for (int[] k : books) {
            told += k[0] == NONE ? 0 : 1;
        }
        return out(what, 0, 4) ? BAD : new int[] {finds.size(), doubted, words.size(), pairs.size(), told}[what];
    }

    long digest() {
        List<Integer> v = new ArrayList<>();
        for (int i = 0; i < 5; i++) {
            v.add(count(i));
        }
        addAll(v, finds);
        for (int maker = 0; maker < 6; maker++) {
            for (int what = 0; what < 3; what++) {
                v.add(numbers(maker, what));
            }
            v.add(runs(maker, 0));
        }
        v.add(most);
        addAll(v, words);
        addAll(v, pairs);
        addAll(v, List.of(fronts));
        addAll(v, List.of(books));
        for (int i = 0; i < 3; i++) {
            v.add(sign(i));
        }
        v.addAll(limbs(above));
        v.addAll(limbs(below));
        long h = 433;
        for (int one : v) {
            h = 31 * h + one;
        }
        return h;
    }

    private static void addAll(List<Integer> v, List<int[]> rows) {
        for (int[] row : rows) {
            for (int one : row) {
                v.add(one);
            }
        }
    }
}
