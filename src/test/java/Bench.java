import java.lang.reflect.InvocationTargetException;
import java.lang.reflect.Method;
import java.math.BigInteger;
import java.util.ArrayList;
import java.util.Arrays;
import java.util.List;
import java.util.TreeMap;
import java.util.TreeSet;
import java.util.function.Supplier;

/** What the tests of the edges share: calls by name, objects to begin from, and looks at a whole object. */
final class Bench {
    static final int NONE = -1, BAD = -2, NO = -3, FULL = -4, BAD_BOOK = -10;
    static final int LEAST = Integer.MIN_VALUE, GREATEST = Integer.MAX_VALUE;
    private static int wrong = 0;
    private static String test = "";

    private Bench() {
    }

    /** Runs every method of a class whose name begins with "promise" and two figures. */
    static void runAll(Class<?> tests, int firstPromise, int lastPromise) {
        TreeMap<String, Method> named = new TreeMap<>();
        TreeSet<Integer> met = new TreeSet<>();
        for (Method m : tests.getDeclaredMethods()) {
            if (m.getName().matches("promise\\d\\d\\w+")) {
                named.put(m.getName(), m);
                met.add(Integer.parseInt(m.getName().substring(7, 9)));
            }
        }
        for (Method m : named.values()) {
            runOne(m);
        }
        test = tests.getName();
        for (int promise = firstPromise; promise <= lastPromise; promise++) {
            due("tests of promise " + promise, met.contains(promise) ? 1 : 0, 1);
        }
        System.out.println(named.size() + " tests, " + wrong + " answers are not as due");
        if (wrong != 0) {
            System.exit(1);
        }
    }

    private static void runOne(Method m) {
        test = m.getName();
        try {
            m.setAccessible(true);
            m.invoke(null);
        } catch (InvocationTargetException e) {
            wrong++;
            System.out.println(test + ": thrown " + e.getCause());
        } catch (IllegalAccessException e) {
            wrong++;
            System.out.println(test + ": cannot be run");
        }
    }

    static void due(String what, long got, long want) {
        if (got != want) {
            wrong++;
            System.out.println(test + ": " + what + " answered " + got + ", due is " + want);
        }
    }

    static String told(String name, int... a) {
        return name + Arrays.toString(a).replace('[', '(').replace(']', ')');
    }

    /** The call of that name; doubt takes 1 for true. */
    static long ask(TankNumbers x, String name, int... a) {
        switch (name) {
            case "find": return x.find(a[0], a[1], a[2], a[3], a[4]);
            case "doubt": return x.doubt(a[0], a[1] == 1);
            case "numbers": return x.numbers(a[0], a[1]);
            case "fits": return x.fits(a[0], a[1], a[2]);
            case "most": return x.most(a[0]);
            case "odds": return x.odds(a[0], a[1], a[2], a[3]);
            case "atLeast": return x.atLeast(a[0], a[1], a[2], a[3]);
            case "span": return x.span(a[0], a[1], a[2], a[3], a[4], a[5]);
            case "told": return x.told(a[0], a[1], a[2], a[3]);
            case "far": return x.far(a[0], a[1], a[2]);
            case "moulds": return x.moulds(a[0], a[1]);
            case "thereAre": return x.thereAre(a[0], a[1]);
            case "can": return x.can(a[0], a[1], a[2], a[3], a[4]);
            case "word": return x.word(a[0], a[1], a[2], a[3]);
            case "wordless": return x.wordless();
            case "keys": return x.keys();
            case "may": return x.may(a[0]);
            case "reads": return x.reads(a[0], a[1], a[2]);
            case "runs": return x.runs(a[0], a[1]);
            case "gap": return x.gap(a[0], a[1], a[2]);
            default: return askMore(x, name, a);
        }
    }

    private static long askMore(TankNumbers x, String name, int... a) {
        switch (name) {
            case "chance": return x.chance(a[0], a[1]);
            case "said": return x.said(a[0], a[1], a[2]);
            case "agent": return x.agent(a[0], a[1]);
            case "putRight": return x.putRight(a[0], a[1]);
            case "front": return x.front(a[0], a[1], a[2]);
            case "lost": return x.lost(a[0]);
            case "book": return x.book(a[0], a[1], a[2], a[3]);
            case "held": return x.held(a[0], a[1], a[2]);
            case "sign": return x.sign(a[0]);
            case "limb": return x.limb(a[0], a[1]);
            case "count": return x.count(a[0]);
            case "digest": return x.digest();
            default: throw new IllegalArgumentException(name);
        }
    }

    static void answers(TankNumbers x, long want, String name, int... a) {
        due(told(name, a), ask(x, name, a), want);
    }

    /** The call answers 1 and THE FRACTION is above by below, each of one limb at most. */
    static void gives(TankNumbers x, int above, int below, String name, int... a) {
        answers(x, 1, name, a);
        isFraction(x, "behind " + told(name, a), above, below);
    }

    static void isFraction(TankNumbers x, String when, int above, int below) {
        int limbs = above == 0 ? 0 : 1;
        due(when + ": sign(0)", x.sign(0), limbs);
        due(when + ": sign(1)", x.sign(1), limbs);
        due(when + ": sign(2)", x.sign(2), 1);
        due(when + ": limb(0, 0)", x.limb(0, 0), above == 0 ? NONE : above);
        due(when + ": limb(0, 1)", x.limb(0, 1), NONE);
        due(when + ": limb(1, 0)", x.limb(1, 0), below);
        due(when + ": limb(1, 1)", x.limb(1, 1), NONE);
    }

    /** THE FRACTION above (0) or below (1) is so much, and has no limb more. */
    static void isLong(TankNumbers x, int which, BigInteger want) {
        int limbs = (want.bitLength() + 29) / 30;
        answers(x, limbs, "sign", 1 + which);
        for (int i = 0; i < limbs; i++) {
            answers(x, want.shiftRight(30 * i).intValue() & 0x3fffffff, "limb", which, i);
        }
        answers(x, NONE, "limb", which, limbs);
    }

    /** Refused, and nothing is changed: neither what is seen at once nor what later calls come to. */
    static void refused(Supplier<TankNumbers> state, long want, String name, int... a) {
        TankNumbers x = state.get();
        List<Long> ahead = looks(x);
        answers(x, want, name, a);
        same(told(name, a) + " changed a look", looks(x), ahead);
        same(told(name, a) + " changed what comes", goesOn(x), goesOn(state.get()));
    }

    private static void same(String what, List<Long> got, List<Long> want) {
        for (int i = 0; i < Math.max(got.size(), want.size()); i++) {
            if (i >= got.size() || i >= want.size() || !got.get(i).equals(want.get(i))) {
                wrong++;
                System.out.println(test + ": " + what + " (look " + i + ")");
                return;
            }
        }
    }

    /** BAD from a new object, from one with some of all, and from a full one. */
    static void bad(String name, int... a) {
        int want = name.equals("book") ? BAD_BOOK : BAD;
        refused(TankNumbers::new, want, name, a);
        refused(Bench::some, want, name, a);
        refused(Bench::full, want, name, a);
    }

    /** Beyond both ends of what one argument may be, the others being as told. */
    static void ends(int which, int least, int greatest, String name, int... a) {
        for (int beyond : new int[] {least - 1, greatest + 1, LEAST, GREATEST}) {
            int[] b = a.clone();
            b[which] = beyond;
            bad(name, b);
        }
    }

    static TankNumbers withNumbers(int... numbers) {
        TankNumbers x = new TankNumbers();
        for (int number : numbers) {
            x.find(0, number, NONE, NONE, 0);
        }
        return x;
    }

    static TankNumbers withMoulds(int... moulds) {
        TankNumbers x = new TankNumbers();
        for (int mould : moulds) {
            x.find(0, 0, NONE, mould, 0);
        }
        return x;
    }

    static TankNumbers withWeeks(int... weeks) {
        TankNumbers x = new TankNumbers();
        for (int week : weeks) {
            x.find(0, 0, week, NONE, 0);
        }
        return x;
    }

    /** Some of all that can be there, and a fraction that is not 0. */
    static TankNumbers some() {
        TankNumbers x = new TankNumbers();
        x.find(0, 100, 3, 1, 0);
        x.find(0, 112, 5, 1, 1);
        x.find(0, 108, 4, 2, 1);
        x.find(0, 101, 4, 2, 2);
        x.find(1, 7, 0, NONE, 3);
        x.find(1, 7, 0, 19, 3);
        x.find(5, 9999, 29, 0, 2);
        x.doubt(3, true);
        x.most(40);
        x.word(2, 1, 10, 49);
        x.word(1, 2, 3, 7);
        x.said(0, 8, 6);
        x.said(0, 5, 9);
        x.said(5, 0, 4);
        x.front(0, 1, 3);
        x.front(2, 2, 7);
        x.book(0, 5, 100, 4);
        x.book(1, 1, 7, 1);
        x.odds(0, 100, 4, 5);
        return x;
    }

    /** No room for one more of anything. */
    static TankNumbers full() {
        TankNumbers x = new TankNumbers();
        for (int i = 0; i < 60; i++) {
            x.find(i % 6, 10 * i, i % 31 - 1, i % 21 - 1, i % 4);
        }
        for (int i = 0; i < 12; i++) {
            x.word(1 + i % 2, i % 6, i % 2, i % 2 == 0 ? 8 : 98);
        }
        for (int i = 0; i < 20; i++) {
            x.said(i % 5, 7 * i, 9 * i + 1);
        }
        for (int i = 0; i < 6; i++) {
            x.book(i, 20 + i, 10 * i, 60);
        }
        x.front(3, 3, 1000);
        x.doubt(59, true);
        x.doubt(0, true);
        x.thereAre(1, 20);
        return x;
    }

    /** Answers of calls that change nothing. */
    static List<Long> looks(TankNumbers x) {
        List<Long> list = new ArrayList<>();
        list.add(x.digest());
        for (int i = 0; i < 5; i++) {
            list.add((long) x.count(i));
        }
        fraction(x, list);
        for (int i = 0; i < 6; i++) {
            for (int what = 0; what < 2; what++) {
                list.add((long) x.numbers(i, 1 + what));
                list.add((long) x.moulds(i, what));
                list.add((long) x.runs(i, what));
                list.add((long) x.gap(i, 30, what));
            }
            list.add((long) x.span(i, 10 * i, 60, 9, 10, 1));
            list.add((long) x.may(i));
        }
        list.add((long) x.keys());
        list.add((long) x.reads(3, 51, 0));
        list.add((long) x.reads(3, 51, 1));
        list.add((long) x.held(1, 2, 0));
        list.add((long) x.held(1, 2, 1));
        list.add((long) x.told(0, 100, 4, 1));
        list.add((long) x.far(2, 100, 4));
        list.add((long) x.fits(5, 9999, 99));
        list.add(x.digest());
        return list;
    }

    private static void fraction(TankNumbers x, List<Long> list) {
        for (int i = 0; i < 3; i++) {
            list.add((long) x.sign(i));
        }
        for (int i = 0; i < 3; i++) {
            list.add((long) x.limb(0, i));
            list.add((long) x.limb(1, i));
        }
    }

    /** Answers of calls that change what there is; each of the rows is moved on. */
    static List<Long> goesOn(TankNumbers x) {
        List<Long> list = new ArrayList<>();
        String[] fractions = {"odds", "atLeast", "thereAre", "chance", "agent", "putRight", "lost"};
        int[][] with = {{0, 100, 4, 6}, {1, 10, 60, 3}, {0, 4}, {0, 30}, {0, 1}, {0, 3}, {NONE}};
        for (int i = 0; i < fractions.length; i++) {
            list.add(ask(x, fractions[i], with[i]));
            fraction(x, list);
        }
        list.add((long) x.find(2, 77, 3, 3, 3));
        list.add((long) x.doubt(0, true));
        list.add((long) x.word(2, 8, 0, 80));
        list.add((long) x.keys());
        list.add((long) x.said(2, 5, 6));
        list.add((long) x.book(4, NONE, 3, 3));
        list.add((long) x.most(77));
        list.add(x.digest());
        list.add((long) x.wordless());
        list.add(x.digest());
        return list;
    }

    static long mixed(long h, int... values) {
        long mixed = h;
        for (int v : values) {
            mixed = 31 * mixed + v;
        }
        return mixed;
    }
}
