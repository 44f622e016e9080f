import java.util.Random;

/** Runs of calls by fixed seeds, each answer held against the model's. */
public final class RandomRunsTest {
    private static final int[] ODD_ONES = {-2147483648, -3, -2, -1, 0, 1, 2147483647};
    private static int wrong = 0;

    private final Random random;
    private final int run;
    private final TankNumbers tank = new TankNumbers();
    private final Model model = new Model();
    private final int first;
    private final int step;
    private final int places;
    private final int oddity;

    private RandomRunsTest(int run) {
        this.run = run;
        random = new Random(run);
        first = random.nextInt(3) == 0 ? 0 : random.nextInt(500);
        step = random.nextInt(2) == 0 ? 1 : 1 + random.nextInt(12);
        places = 2 + random.nextInt(170);
        oddity = random.nextInt(3) == 0 ? 8 : 60;
    }

    /** Mostly from the range, at times at its edges or beyond them. */
    private int pick(int low, int high) {
        int kind = random.nextInt(oddity);
        if (kind == 0) {
            return ODD_ONES[random.nextInt(ODD_ONES.length)];
        }
        if (kind == 1) {
            return random.nextBoolean() ? low - 1 : high + 1;
        }
        if (kind <= 3) {
            return random.nextBoolean() ? low : high;
        }
        return low + random.nextInt(high - low + 1);
    }

    private int maker() {
        return random.nextInt(3) > 0 ? 0 : pick(0, 5);
    }

    private int number() {
        return random.nextInt(20) == 0 ? pick(0, 9999) : first + step * random.nextInt(places);
    }

    private int schemeFirst() {
        return random.nextInt(5) > 0 ? first : pick(0, 9999);
    }

    private int schemeStep() {
        return random.nextInt(5) > 0 ? step : pick(1, 99);
    }

    private void due(String call, long got, long want) {
        if (got != want) {
            wrong++;
            System.out.println("run " + run + ": " + call + " answered " + got + ", due is " + want);
        }
    }

    private void addFind() {
        int m = maker(), n = number(), w = pick(-1, 29), d = pick(-1, random.nextBoolean() ? 4 : 19), f = pick(0, 3);
        due("find " + m + " " + n + " " + w + " " + d + " " + f, tank.find(m, n, w, d, f), model.find(m, n, w, d, f));
    }

    private void addWord() {
        int l = pick(1, 4);
        int r = pick(0, (int) Math.pow(6, Math.max(1, Math.min(4, l))) - 1);
        int top = (int) Math.pow(10, Math.max(1, Math.min(4, l))) - 1;
        int low = random.nextInt(3) == 0 ? 0 : pick(0, top);
        int high = random.nextInt(3) == 0 ? top : pick(0, top);
        due("word " + l + " " + r + " " + low + " " + high, tank.word(l, r, low, high), model.word(l, r, low, high));
    }

    private void scheme(int which) {
        int m = maker(), f = schemeFirst(), s = schemeStep(), n = pick(0, 200), w = pick(0, 1);
        int b = pick(1, 1000), a = pick(1, Math.max(1, Math.min(b, 1000)));
        String told = m + " " + f + " " + s + " " + n + " " + a + "/" + b + " " + w;
        switch (which) {
            case 0: due("fits " + told, tank.fits(m, f, s), model.fits(m, f, s)); break;
            case 1: due("odds " + told, tank.odds(m, f, s, n), model.odds(m, f, s, n)); break;
            case 2: due("atLeast " + told, tank.atLeast(m, f, s, n), model.atLeast(m, f, s, n)); break;
            case 3: due("span " + told, tank.span(m, f, s, a, b, w), model.span(m, f, s, a, b, w)); break;
            case 4: due("told " + told, tank.told(m, f, s, w), model.told(m, f, s, w)); break;
            case 5: due("book " + told, tank.book(m, n > 150 ? -1 : n, f, s), model.book(m, n > 150 ? -1 : n, f, s)); break;
            case 6: due("held " + told, tank.held(a, b, w), model.held(a, b, w)); break;
            default:
                int i = random.nextInt(60);
                due("far " + i + " " + told, tank.far(i, f, s), model.far(i, f, s));
        }
    }

    private void ofMaker(int which) {
        int m = maker(), w = pick(0, 1), n = pick(0, 30), weeks = pick(1, 30);
        String told = m + " " + w + " " + n + " " + weeks;
        switch (which) {
            case 0: int what = pick(0, 2); due("numbers " + m + " " + what, tank.numbers(m, what), model.numbers(m, what)); break;
            case 1: due("moulds " + told, tank.moulds(m, w), model.moulds(m, w)); break;
            case 2: due("thereAre " + told, tank.thereAre(m, n), model.thereAre(m, n)); break;
            case 3: due("runs " + told, tank.runs(m, w), model.runs(m, w)); break;
            case 4: due("gap " + told, tank.gap(m, weeks, w), model.gap(m, weeks, w)); break;
            default: due("chance " + told, tank.chance(m, weeks), model.chance(m, weeks));
        }
    }

    private void ofWords(int which) {
        int l = pick(1, 4), w = pick(0, 1), letter = pick(0, 5);
        int r = pick(0, (int) Math.pow(6, Math.max(1, Math.min(4, l))) - 1);
        switch (which) {
            case 0: due("keys", tank.keys(), model.keys()); break;
            case 1: due("may " + letter, tank.may(letter), model.may(letter)); break;
            default: due("reads " + l + " " + r + " " + w, tank.reads(l, r, w), model.reads(l, r, w));
        }
    }

    private void other(int which) {
        int a = pick(0, 5), b = pick(1, 1000), c = pick(1, Math.max(1, Math.min(b, 1000))), f = pick(-1, 3), w = pick(0, 1);
        int x = pick(0, random.nextBoolean() ? 9999 : 1), y = pick(0, 9999), i = random.nextInt(60), n = pick(1, 150);
        boolean is = random.nextInt(3) == 0;
        String told = a + " " + b + " " + c + " " + f + " " + w + " " + x + " " + y + " " + i + " " + n + " " + is;
        switch (which) {
            case 0: due("doubt " + told, tank.doubt(i, is), model.doubt(i, is)); break;
            case 1: due("said " + told, tank.said(a, x, y), model.said(a, x, y)); break;
            case 2: due("agent " + told, tank.agent(a, w), model.agent(a, w)); break;
            case 3: due("putRight " + told, tank.putRight(a, y), model.putRight(a, y)); break;
            case 4: due("front " + told, tank.front(f, c, b), model.front(f, c, b)); break;
            case 5: due("lost " + told, tank.lost(f), model.lost(f)); break;
            case 6: due("most " + told, tank.most(n), model.most(n)); break;
            case 7: due("wordless", tank.wordless(), model.wordless()); break;
            default: can();
        }
    }

    private void can() {
        int m = pick(1, 20), d = pick(1, 9), s = pick(1, 7), w = pick(1, 99), t = pick(0, 99);
        due("can " + m + " " + d + " " + s + " " + w + " " + t, tank.can(m, d, s, w, t), model.can(m, d, s, w, t));
    }

    private void looks() {
        for (int i = 0; i < 3; i++) {
            due("sign " + i, tank.sign(i), model.sign(i));
        }
        for (int i = 0; i < 5; i++) {
            due("count " + i, tank.count(i), model.count(i));
        }
        int which = pick(0, 1), i = pick(0, 9);
        due("limb " + which + " " + i, tank.limb(which, i), model.limb(which, i));
    }

    private void go() {
        boolean manyWords = run % 8 == 0;
        for (int call = 0; call < 160; call++) {
            int kind = random.nextInt(manyWords ? 14 : 10);
            if (kind <= 2) {
                addFind();
            } else if (kind <= 5) {
                scheme(random.nextInt(8));
            } else if (kind <= 7) {
                ofMaker(random.nextInt(6));
            } else if (kind <= 9) {
                int which = random.nextInt(30);
                other(which == 7 && manyWords ? 7 : which % 9 == 7 ? 0 : which % 9);
            } else if (kind == 10) {
                addWord();
            } else {
                ofWords(random.nextInt(3));
            }
            due("digest after call " + call, tank.digest(), model.digest());
            if (call % 16 == 0) {
                looks();
            }
        }
    }

    private void alike(String call, int got, int want) {
        due(call, got, want);
        due("digest after " + call, tank.digest(), model.digest());
    }

    /** Sixty finds of one maker: the longest fractions. */
    private void goFull() {
        int unlike = 1 + random.nextInt(20), weeks = 1 + random.nextInt(30);
        for (int i = 0; i < 60; i++) {
            int n = (i * 7 + run) % 150, w = i < 12 ? random.nextInt(weeks) : -1, d = random.nextInt(unlike);
            alike("find " + i, tank.find(0, n, w, d, i % 4), model.find(0, n, w, d, i % 4));
        }
        for (int n = 0; n <= 21; n++) {
            alike("thereAre(0, " + n + ")", tank.thereAre(0, n), model.thereAre(0, n));
        }
        for (int n = 135; n <= 151; n++) {
            alike("odds " + n, tank.odds(0, 0, 1, n), model.odds(0, 0, 1, n));
            alike("atLeast " + n, tank.atLeast(0, 0, 1, n), model.atLeast(0, 0, 1, n));
        }
        for (int w = 1; w <= 30; w++) {
            alike("chance(0, " + w + ")", tank.chance(0, w), model.chance(0, w));
        }
    }

    public static void main(String[] args) {
        int runs = args.length > 0 ? Integer.parseInt(args[0]) : 240;
        for (int run = 0; run < runs; run++) {
            new RandomRunsTest(run).go();
        }
        for (int run = 0; run < 20; run++) {
            new RandomRunsTest(run).goFull();
        }
        System.out.println(wrong == 0 ? "all answers are as due" : wrong + " answers are not as due");
        if (wrong != 0) {
            System.exit(1);
        }
    }
}
