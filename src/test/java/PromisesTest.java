/** Each promise of the document, by answers worked out by hand. */
public final class PromisesTest {
    private static final int BIG = 2147483647;
    private static final int SMALL = -2147483648;
    private static int wrong = 0;
    private static String promise = "";

    private static void due(String call, long got, long want) {
        if (got != want) {
            wrong++;
            System.out.println(promise + ": " + call + " answered " + got + ", due is " + want);
        }
    }

    /** THE FRACTION, where each part has one limb. */
    private static void fraction(TankNumbers x, String call, int above, int below) {
        due(call + ": sign", x.sign(0), above == 0 ? 0 : 1);
        due(call + ": limbs above", x.sign(1), above == 0 ? 0 : 1);
        due(call + ": limbs below", x.sign(2), 1);
        due(call + ": above", x.limb(0, 0), above == 0 ? -1 : above);
        due(call + ": below", x.limb(1, 0), below);
    }

    private static TankNumbers withNumbers(int... numbers) {
        TankNumbers x = new TankNumbers();
        for (int number : numbers) {
            x.find(0, number, -1, -1, 0);
        }
        return x;
    }

    private static TankNumbers withWeeks(int... weeks) {
        TankNumbers x = new TankNumbers();
        for (int week : weeks) {
            x.find(0, 1, week, -1, 0);
        }
        return x;
    }

    private static TankNumbers withMoulds(int... moulds) {
        TankNumbers x = new TankNumbers();
        for (int mould : moulds) {
            x.find(0, 1, -1, mould, 0);
        }
        return x;
    }

    private static void newObject() {
        TankNumbers x = new TankNumbers();
        for (int what = 0; what <= 4; what++) {
            due("count(" + what + ")", x.count(what), 0);
        }
        fraction(x, "at first", 0, 1);
        due("keys()", x.keys(), 151200);
        due("numbers(5, 0)", x.numbers(5, 0), 0);
        due("held(1, 1, 0)", x.held(1, 1, 0), 0);
        due("most(150)", x.most(150), 150);
        due("lost(-1)", x.lost(-1), 1);
        fraction(x, "lost(-1)", 0, 1);
        due("agent(0, 1)", x.agent(0, 1), -3);
    }

    private static void find() {
        TankNumbers x = new TankNumbers();
        long before = x.digest();
        int[][] bad = {
            {-1, 0, 0, 0, 0}, {6, 0, 0, 0, 0}, {0, -1, 0, 0, 0}, {0, 10000, 0, 0, 0}, {0, 0, -2, 0, 0},
            {0, 0, 30, 0, 0}, {0, 0, 0, -2, 0}, {0, 0, 0, 20, 0}, {0, 0, 0, 0, -1}, {0, 0, 0, 0, 4},
            {SMALL, BIG, BIG, BIG, BIG}};
        for (int[] b : bad) {
            due("find, bad", x.find(b[0], b[1], b[2], b[3], b[4]), -2);
        }
        due("digest after bad ones", x.digest(), before);
        due("find, least", x.find(0, 0, -1, -1, 0), 0);
        due("find, greatest", x.find(5, 9999, 29, 19, 3), 1);
        for (int i = 2; i < 60; i++) {
            due("find " + i, x.find(i % 6, i, i % 30, i % 20, i % 4), i);
        }
        before = x.digest();
        due("find, full", x.find(0, 0, 0, 0, 0), -4);
        due("find, bad ahead of full", x.find(6, 0, 0, 0, 0), -2);
        due("digest after full", x.digest(), before);
        due("count(0)", x.count(0), 60);
    }

    private static void doubt() {
        TankNumbers x = withNumbers(3, 5, 9);
        due("doubt(-1)", x.doubt(-1, true), -2);
        due("doubt(3)", x.doubt(3, true), -2);
        due("doubt, is not so", x.doubt(1, false), -3);
        due("doubt(2, true)", x.doubt(2, true), 1);
        due("doubt again", x.doubt(2, true), -3);
        due("count(1)", x.count(1), 1);
        due("count(0) keeps it", x.count(0), 3);
        due("numbers", x.numbers(0, 0), 2);
        due("doubt no more", x.doubt(2, false), 1);
        due("numbers", x.numbers(0, 0), 3);
        due("count(1)", x.count(1), 0);
    }

    private static void doubtCountsNowhere() {
        TankNumbers x = new TankNumbers();
        x.find(0, 4, 2, 7, 1);
        x.doubt(0, true);
        due("numbers", x.numbers(0, 0), 0);
        due("fits", x.fits(0, 5, 1), 1);
        due("moulds t", x.moulds(0, 0), 0);
        due("moulds d", x.moulds(0, 1), 0);
        due("runs", x.runs(0, 0), 0);
        due("gap", x.gap(0, 5, 0), -3);
        x.lost(1);
        fraction(x, "lost", 0, 1);
    }

    private static void numbers() {
        TankNumbers x = withNumbers(17, 17);
        due("k of twins", x.numbers(0, 0), 1);
        due("STEP of one", x.numbers(0, 1), 0);
        due("MAY GO of one", x.numbers(0, 2), 1022);
        due("MAY GO of none", x.numbers(1, 2), 1022);
        x = withNumbers(100, 16, 58);
        due("STEP 42", x.numbers(0, 1), 42);
        due("MAY GO 42", x.numbers(0, 2), 2 + 4 + 8 + 64 + 128);
        x = withNumbers(9999, 0);
        due("STEP 9999", x.numbers(0, 1), 9999);
        due("MAY GO 9999", x.numbers(0, 2), 2 + 8 + 512);
        due("numbers(-1, 0)", x.numbers(-1, 0), -2);
        due("numbers(6, 0)", x.numbers(6, 0), -2);
        due("numbers(0, -1)", x.numbers(0, -1), -2);
        due("numbers(0, 3)", x.numbers(0, 3), -2);
    }

    private static void fits() {
        TankNumbers x = withNumbers(10, 31, 24);
        due("fits(0, 10, 7)", x.fits(0, 10, 7), 1);
        due("fits(0, 3, 7)", x.fits(0, 3, 7), 1);
        due("fits(0, 17, 7)", x.fits(0, 17, 7), 0);
        due("fits(0, 10, 14)", x.fits(0, 10, 14), 0);
        due("fits(0, 9, 1)", x.fits(0, 9, 1), 1);
        due("fits(1, 9999, 99)", x.fits(1, 9999, 99), 1);
        due("fits(6, 0, 1)", x.fits(6, 0, 1), -2);
        due("fits(0, -1, 1)", x.fits(0, -1, 1), -2);
        due("fits(0, 10000, 1)", x.fits(0, 10000, 1), -2);
        due("fits(0, 0, 0)", x.fits(0, 0, 0), -2);
        due("fits(0, 0, 100)", x.fits(0, 0, 100), -2);
    }

    private static void most() {
        TankNumbers x = new TankNumbers();
        due("most(0)", x.most(0), -2);
        due("most(151)", x.most(151), -2);
        due("most(1)", x.most(1), 150);
        due("most(150)", x.most(150), 1);
        due("most(7)", x.most(7), 150);
    }

    private static void odds() {
        TankNumbers x = withNumbers(50, 60);
        x.most(3);
        int[] above = {0, 0, 3, 1, 0};
        int[] below = {1, 1, 4, 4, 1};
        for (int n = 0; n <= 4; n++) {
            due("odds " + n, x.odds(0, 50, 10, n), 1);
            fraction(x, "odds " + n, above[n], below[n]);
        }
        due("odds(.., 200)", x.odds(0, 50, 10, 200), 1);
        fraction(x, "odds 200", 0, 1);
        due("odds of none", x.odds(1, 50, 10, 3), 1);
        fraction(x, "odds of none", 1, 3);
        due("odds 0 of none", x.odds(1, 50, 10, 0), 1);
        fraction(x, "odds 0 of none", 0, 1);
        due("greatest place is MOST less 1", x.odds(0, 40, 10, 3), 1);
        fraction(x, "odds 3 of 3", 1, 1);
        long before = x.digest();
        due("greatest place is MOST", x.odds(0, 30, 10, 3), -3);
        due("odds, no fit", x.odds(0, 50, 3, 3), -3);
        due("odds(.., -1)", x.odds(0, 50, 10, -1), -2);
        due("odds(.., 201)", x.odds(0, 50, 10, 201), -2);
        due("odds, bad ahead of no", x.odds(0, 50, 0, 3), -2);
        due("odds(6, ..)", x.odds(6, 50, 10, 3), -2);
        due("digest after refusals", x.digest(), before);
    }

    private static void atLeast() {
        TankNumbers x = withNumbers(0);
        x.most(3);
        // 1, 1/2, 1/3 over 11/6
        int[] above = {1, 1, 5, 2, 0};
        int[] below = {1, 1, 11, 11, 1};
        for (int n = 0; n <= 4; n++) {
            due("atLeast " + n, x.atLeast(0, 0, 1, n), 1);
            fraction(x, "atLeast " + n, above[n], below[n]);
        }
        due("atLeast(.., -1)", x.atLeast(0, 0, 1, -1), -2);
        due("atLeast(.., 201)", x.atLeast(0, 0, 1, 201), -2);
        due("atLeast(.., 200)", x.atLeast(0, 0, 1, 200), 1);
        due("atLeast, no fit", x.atLeast(0, 1, 1, 2), -3);
        x.find(0, 3, -1, -1, 0);
        due("atLeast, too great", x.atLeast(0, 0, 1, 2), -3);
    }

    private static void span() {
        TankNumbers x = withNumbers(50, 60);
        x.most(3);
        due("span 3/4 x", x.span(0, 50, 10, 3, 4, 0), 2);
        due("span 3/4 y", x.span(0, 50, 10, 3, 4, 1), 2);
        due("span 751/1000 y", x.span(0, 50, 10, 751, 1000, 1), 3);
        due("span 1/1 y", x.span(0, 50, 10, 1, 1, 1), 3);
        x.most(10);
        due("span of none x", x.span(1, 0, 1, 1, 2, 0), 1);
        due("span of none 5/10 y", x.span(1, 0, 1, 5, 10, 1), 5);
        due("span of none 51/100 y", x.span(1, 0, 1, 51, 100, 1), 6);
        due("span of none 1/1000 y", x.span(1, 0, 1, 1, 1000, 1), 1);
        int[][] bad = {{0, 1, 0}, {2, 1, 0}, {1, 1001, 0}, {-1, 5, 0}, {1, 2, -1}, {1, 2, 2}, {1, 0, 0}};
        for (int[] b : bad) {
            due("span, bad", x.span(0, 50, 10, b[0], b[1], b[2]), -2);
        }
        due("span, no fit", x.span(0, 51, 10, 1, 2, 0), -3);
        due("span 1000/1000", x.span(0, 50, 10, 1000, 1000, 1), 10);
    }

    private static void told() {
        TankNumbers x = withNumbers(19, 40, 42, 60);
        due("LIKELIEST", x.told(0, 1, 1, 0), 60);
        due("A LITTLE MORE", x.told(0, 1, 1, 1), 74);
        x = withNumbers(4);
        due("A LITTLE MORE of one", x.told(0, 0, 1, 1), 9);
        x = withNumbers(0);
        due("A LITTLE MORE of the first", x.told(0, 0, 1, 1), 1);
        due("LIKELIEST of none", x.told(1, 0, 1, 0), 1);
        due("A LITTLE MORE of none", x.told(1, 0, 1, 1), 0);
        due("told, no fit", x.told(0, 1, 1, 1), -3);
        due("told(.., 2)", x.told(0, 0, 1, 2), -2);
        due("told(.., -1)", x.told(0, 0, 1, -1), -2);
    }

    private static void far() {
        TankNumbers x = withNumbers(0, 1, 100);
        due("far(2)", x.far(2, 0, 1), 1);
        due("far(0)", x.far(0, 0, 1), 0);
        due("far, no fit", x.far(2, 1, 1), -3);
        due("far(3)", x.far(3, 0, 1), -2);
        due("far(-1)", x.far(-1, 0, 1), -2);
        due("far, first", x.far(0, 10000, 1), -2);
        due("far, step", x.far(0, 0, 100), -2);
        x.find(0, 100, -1, -1, 0);
        due("far with a twin", x.far(2, 0, 1), 0);
        x.doubt(3, true);
        due("far, doubted", x.far(3, 0, 1), -3);
        due("far again", x.far(2, 0, 1), 1);
        x.most(100);
        due("far of the least: 100 is not below MOST", x.far(0, 0, 1), -3);
        due("far beyond MOST", x.far(2, 0, 1), 1);
        x = withNumbers(9999);
        due("far alone", x.far(0, 0, 1), 0);
        // 1 and 1/3: 99 by 100 is reached at MOST alone, at which the find lies just within
        x = withNumbers(0, 1, 2);
        x.most(3);
        due("far at the edge", x.far(2, 0, 1), 0);
        x.most(2);
        due("far beyond the edge", x.far(2, 0, 1), 1);
    }

    private static void moulds() {
        TankNumbers x = withMoulds(0, 19, 19, -1, 4);
        due("t", x.moulds(0, 0), 4);
        due("d", x.moulds(0, 1), 3);
        due("moulds(1, 0)", x.moulds(1, 0), 0);
        due("moulds(6, 0)", x.moulds(6, 0), -2);
        due("moulds(-1, 0)", x.moulds(-1, 0), -2);
        due("moulds(0, 2)", x.moulds(0, 2), -2);
        due("moulds(0, -1)", x.moulds(0, -1), -2);
    }

    private static void thereAre() {
        TankNumbers x = new TankNumbers();
        int[] at = {0, 1, 20, 21, 30};
        int[] above = {0, 1, 1, 0, 0};
        for (int i = 0; i < at.length; i++) {
            due("thereAre(0, " + at[i] + ")", x.thereAre(0, at[i]), 1);
            fraction(x, "thereAre(0, " + at[i] + ")", above[i], above[i] == 0 ? 1 : 20);
        }
        due("thereAre(0, 31)", x.thereAre(0, 31), -2);
        due("thereAre(0, -1)", x.thereAre(0, -1), -2);
        due("thereAre(6, 1)", x.thereAre(6, 1), -2);
        // one find of a mould tells nothing: n by n
        x = withMoulds(3);
        x.thereAre(0, 7);
        fraction(x, "one mould met", 1, 20);
        x = withMoulds(0, 1, 2, 3, 4, 5, 6, 7, 8, 9, 10, 11, 12, 13, 14, 15, 16, 17, 18, 19);
        x.thereAre(0, 20);
        fraction(x, "all met: 20", 1, 1);
        x.thereAre(0, 19);
        fraction(x, "all met: 19", 0, 1);
        // d 19: 19! by 19 to the 19, 20! by 20 to the 19: 1 by 19^19 to 20 by 20^19, so 20^18 to 19^19
        x = withMoulds(0, 1, 2, 3, 4, 5, 6, 7, 8, 9, 10, 11, 12, 13, 14, 15, 16, 17, 18);
        x.thereAre(0, 20);
        java.math.BigInteger nineteen = java.math.BigInteger.valueOf(19).pow(19);
        java.math.BigInteger whole = nineteen.add(java.math.BigInteger.valueOf(20).pow(18));
        due("19 met: limbs above", x.sign(1), 3);
        for (int i = 0; i < 3; i++) {
            due("19 met: above", x.limb(0, i), nineteen.shiftRight(30 * i).intValue() & 0x3fffffff);
            due("19 met: below", x.limb(1, i), whole.shiftRight(30 * i).intValue() & 0x3fffffff);
        }
    }

    private static void can() {
        TankNumbers x = new TankNumbers();
        due("can, cut", x.can(1, 1, 1, 2, 5), 2);
        due("can, greatest", x.can(20, 9, 7, 1, 99), 124740);
        due("can, no weeks", x.can(20, 9, 7, 1, 0), 0);
        due("can, whole ones over all weeks", x.can(1, 1, 1, 99, 99), 1);
        int[][] bad = {
            {0, 1, 1, 1, 1}, {21, 1, 1, 1, 1}, {1, 0, 1, 1, 1}, {1, 10, 1, 1, 1}, {1, 1, 0, 1, 1}, {1, 1, 8, 1, 1},
            {1, 1, 1, 0, 1}, {1, 1, 1, 100, 1}, {1, 1, 1, 1, -1}, {1, 1, 1, 1, 100}};
        for (int[] b : bad) {
            due("can, bad", x.can(b[0], b[1], b[2], b[3], b[4]), -2);
        }
    }

    private static void words() {
        TankNumbers x = new TankNumbers();
        int[][] bad = {
            {0, 0, 0, 1}, {5, 0, 0, 1}, {1, 6, 0, 1}, {2, 36, 0, 1}, {3, 216, 0, 1}, {4, 1296, 0, 1}, {1, -1, 0, 1},
            {1, 0, -1, 1}, {1, 0, 0, 10000}, {1, 0, 5, 4}, {BIG, BIG, BIG, BIG}, {SMALL, 0, 0, 0}};
        for (int[] b : bad) {
            due("word, bad", x.word(b[0], b[1], b[2], b[3]), -2);
        }
        due("keys after bad ones", x.keys(), 151200);
        int[] greatest = {0, 5, 35, 215, 1295};
        for (int i = 0; i < 12; i++) {
            due("word " + i, x.word(1 + i % 4, greatest[1 + i % 4], 0, 9999), i);
        }
        due("word, full", x.word(1, 0, 0, 9), -4);
        due("word, bad ahead of full", x.word(1, 6, 0, 9), -2);
        due("count(2)", x.count(2), 12);
    }

    private static void wordless() {
        TankNumbers x = new TankNumbers();
        due("wordless, none", x.wordless(), 0);
        x.word(1, 0, 5, 5);
        x.word(1, 1, 6, 6);
        due("keys", x.keys(), 1680);
        due("wordless", x.wordless(), 2);
        due("keys", x.keys(), 151200);
        due("may(0)", x.may(0), 1023);
        due("count(2)", x.count(2), 0);
        due("word, anew", x.word(1, 0, 5, 5), 0);
    }

    private static void keys() {
        TankNumbers x = new TankNumbers();
        x.word(1, 3, 4, 4);
        due("one letter known", x.keys(), 15120);
        x.word(1, 4, 4, 4);
        due("unlike letters, like figures", x.keys(), 0);
        x.wordless();
        x.word(2, 7, 0, 50);
        due("like letters, like figures: 00 11 22 33 44", x.keys(), 5 * 15120);
        x.wordless();
        x.word(2, 1, 9, 12);
        due("09 10 12, a first figure 0 may be", x.keys(), 3 * 1680);
        // letters 0 to 3 in order: 5 1 2 0, then 4 and 5
        x.wordless();
        x.word(4, 51, 5120, 5120);
        x.word(2, 29, 34, 34);
        due("all letters known", x.keys(), 1);
    }

    private static void may() {
        TankNumbers x = new TankNumbers();
        due("may(0) of all", x.may(0), 1023);
        x.word(2, 1, 9, 12);
        due("may(0)", x.may(0), 3);
        due("may(1)", x.may(1), 1 + 4 + 512);
        due("may(5): all are left by one key or another", x.may(5), 1023);
        x.word(1, 2, 1, 1);
        due("may(0), 1 is taken", x.may(0), 1);
        due("may(5)", x.may(5), 1023 - 1 - 2 - 512);
        due("may(-1)", x.may(-1), -2);
        due("may(6)", x.may(6), -2);
        x.word(1, 0, 9, 9);
        due("may, no keys", x.may(0), 0);
    }

    private static void reads() {
        TankNumbers x = new TankNumbers();
        due("least of unlike ones", x.reads(4, 51, 0), 123);
        due("greatest of unlike ones", x.reads(4, 51, 1), 9876);
        due("least of like ones", x.reads(4, 0, 0), 0);
        due("greatest, first and last alike", x.reads(3, 6, 1), 989);
        x.word(2, 1, 9, 12);
        due("least of the word", x.reads(2, 1, 0), 9);
        due("greatest of the word", x.reads(2, 1, 1), 12);
        due("least, turned about", x.reads(2, 6, 0), 1);
        due("greatest, turned about", x.reads(2, 6, 1), 90);
        due("greatest of another", x.reads(1, 2, 1), 9);
        int[][] bad = {{0, 0, 0}, {5, 0, 0}, {1, 6, 0}, {2, 36, 0}, {1, -1, 0}, {1, 0, -1}, {1, 0, 2}};
        for (int[] b : bad) {
            due("reads, bad", x.reads(b[0], b[1], b[2]), -2);
        }
        x.word(1, 0, 9, 9);
        due("reads, no keys", x.reads(1, 0, 0), -1);
        due("reads, bad ahead of no keys", x.reads(1, 0, 2), -2);
    }

    private static void runs() {
        TankNumbers x = new TankNumbers();
        due("runs of none", x.runs(0, 0), 0);
        due("began of none", x.runs(0, 1), -1);
        x.find(0, 500, 0, -1, 0);
        due("runs of one", x.runs(0, 0), 1);
        x.find(0, 500, 3, -1, 0);
        due("like numbers do not fall", x.runs(0, 0), 1);
        due("began, one run", x.runs(0, 1), -1);
        x.find(0, 90, 3, -1, 0);
        due("within a week by numbers", x.runs(0, 0), 2);
        due("began", x.runs(0, 1), 3);
        x.find(0, 7, 9, -1, 0);
        due("three runs", x.runs(0, 0), 3);
        due("began, the first", x.runs(0, 1), 3);
        x.find(0, 1, -1, -1, 0);
        due("not dated", x.runs(0, 0), 3);
        due("runs(0, 2)", x.runs(0, 2), -2);
        due("runs(0, -1)", x.runs(0, -1), -2);
        due("runs(6, 0)", x.runs(6, 0), -2);
    }

    private static void gap() {
        TankNumbers x = withWeeks(2, 5, 29, -1);
        due("g", x.gap(0, 30, 0), 23);
        due("its first week", x.gap(0, 30, 1), 6);
        due("of like ones g", x.gap(0, 8, 0), 2);
        due("of like ones the first", x.gap(0, 8, 1), 0);
        due("at the end", x.gap(0, 9, 1), 6);
        due("none dated so early", x.gap(0, 2, 0), -3);
        due("gap(0, 0, 0)", x.gap(0, 0, 0), -2);
        due("gap(0, 31, 0)", x.gap(0, 31, 0), -2);
        due("gap(0, 1, 2)", x.gap(0, 1, 2), -2);
        due("gap(6, 1, 0)", x.gap(6, 1, 0), -2);
        x = withWeeks(0, 0, 0, 0, 0, 0, 1, 1, 1, 1, 1, 1, 2);
        due("thirteen", x.gap(0, 3, 0), -3);
        due("twelve", x.gap(0, 2, 0), 0);
        due("no gap", x.gap(0, 2, 1), -1);
    }

    private static void chance() {
        TankNumbers x = withWeeks(0, 4);
        due("chance", x.chance(0, 5), 1);
        fraction(x, "0 and 4 of 5: 10 of 25", 2, 5);
        due("no gap", x.chance(0, 1), 1);
        fraction(x, "no gap", 1, 1);
        x = withWeeks(0, 1, 2);
        x.chance(0, 3);
        fraction(x, "no gap of 3 weeks: all ways", 1, 1);
        x.doubt(2, true);
        x.chance(0, 3);
        fraction(x, "two finds always leave one of three weeks", 1, 1);
        x = withWeeks(1);
        x.chance(0, 3);
        fraction(x, "one of three weeks: a gap of 1 or more", 1, 1);
        x = withWeeks(0);
        x.chance(0, 3);
        fraction(x, "one of three weeks: a gap of 2", 2, 3);
        x = withWeeks(0, 0, 0, 0, 0, 0, 0, 0, 0, 0, 0, 0);
        due("twelve in the first of 30", x.chance(0, 30), 1);
        // all in the first or all in the last week: 2 of 30 to the 12, 1 by 15 times 30 to the 11
        long below = 15L * 30 * 30 * 30 * 30 * 30 * 30 * 30 * 30 * 30 * 30 * 30;
        due("above", x.limb(0, 0), 1);
        due("below, low", x.limb(1, 0), below & 0x3fffffff);
        due("below, high", x.limb(1, 1), below >> 30);
        due("below, no more", x.limb(1, 2), -1);
        due("chance(0, 31)", x.chance(0, 31), -2);
        due("chance(0, 0)", x.chance(0, 0), -2);
        due("chance(6, 1)", x.chance(6, 1), -2);
        due("chance(1, 1)", x.chance(1, 1), -3);
        x.find(0, 0, 29, -1, 0);
        due("thirteen", x.chance(0, 30), -3);
        due("twelve of 29", x.chance(0, 29), 1);
    }

    private static void agents() {
        TankNumbers x = new TankNumbers();
        int[][] bad = {{-1, 0, 0}, {6, 0, 0}, {0, -1, 0}, {0, 10000, 0}, {0, 0, -1}, {0, 0, 10000}};
        for (int[] b : bad) {
            due("said, bad", x.said(b[0], b[1], b[2]), -2);
        }
        due("said", x.said(5, 9999, 0), 1);
        due("agent(5, 0)", x.agent(5, 0), 1);
        fraction(x, "HABIT 0", 0, 1);
        due("said", x.said(5, 1, 200), 2);
        x.agent(5, 0);
        fraction(x, "HABIT", 1, 50);
        x.agent(5, 1);
        fraction(x, "WORTH", 5099, 1);
        x.putRight(5, 75);
        fraction(x, "PUT RIGHT", 3, 2);
        x.putRight(5, 0);
        fraction(x, "PUT RIGHT 0", 0, 1);
        long before = x.digest();
        due("putRight, bad x", x.putRight(5, 10000), -2);
        due("putRight, bad x", x.putRight(5, -1), -2);
        due("putRight(6, 0)", x.putRight(6, 0), -2);
        due("putRight, nothing told", x.putRight(0, 1), -3);
        due("agent, nothing told", x.agent(0, 1), -3);
        due("agent(0, 2)", x.agent(0, 2), -2);
        due("agent(0, -1)", x.agent(0, -1), -2);
        due("agent(-1, 0)", x.agent(-1, 0), -2);
        due("digest after refusals", x.digest(), before);
        x.said(3, 0, 9);
        due("HABIT, all SAID 0", x.agent(3, 0), -3);
        due("PUT RIGHT, all SAID 0", x.putRight(3, 1), -3);
        due("WORTH, all SAID 0", x.agent(3, 1), 1);
        fraction(x, "WORTH, all SAID 0", 9, 1);
        for (int i = 4; i <= 20; i++) {
            due("said " + i, x.said(i % 6, i, i), i);
        }
        due("said, full", x.said(0, 0, 0), -4);
        due("said, bad ahead of full", x.said(6, 0, 0), -2);
        due("count(3)", x.count(3), 20);
    }

    private static void putRightGreatest() {
        TankNumbers x = new TankNumbers();
        for (int i = 0; i < 20; i++) {
            x.said(1, i == 0 ? 1 : 0, 9999);
        }
        due("putRight", x.putRight(1, 9999), 1);
        long all = 20L * 9999 * 9999;
        due("above, low", x.limb(0, 0), all & 0x3fffffff);
        due("above, high", x.limb(0, 1), all >> 30);
        due("limbs above", x.sign(1), 2);
    }

    private static void fronts() {
        TankNumbers x = withNumbers(1, 1, 2);
        x.find(4, 1, -1, -1, 3);
        due("lost(0)", x.lost(0), 1);
        fraction(x, "LOST, 1 by 1 at first", 3, 1);
        due("front", x.front(0, 2, 5), 1);
        x.lost(0);
        fraction(x, "LOST", 15, 2);
        x.front(3, 999, 1000);
        x.lost(-1);
        fraction(x, "LOST, all together", 15 * 999 + 2000, 2 * 999);
        x.lost(1);
        fraction(x, "LOST, no finds", 0, 1);
        x.doubt(0, true);
        x.lost(0);
        fraction(x, "LOST, one doubted", 5, 1);
        due("front again", x.front(0, 2, 5), 1);
        int[][] bad = {{-1, 1, 1}, {4, 1, 1}, {0, 0, 1}, {0, 2, 1}, {0, 1, 1001}, {0, -1, 1}, {0, 0, 0}};
        for (int[] b : bad) {
            due("front, bad", x.front(b[0], b[1], b[2]), -2);
        }
        due("lost(4)", x.lost(4), -2);
        due("lost(-2)", x.lost(-2), -2);
    }

    private static void books() {
        TankNumbers x = withNumbers(0, 1);
        int[][] bad = {
            {-1, 1, 0, 1}, {6, 1, 0, 1}, {0, 0, 0, 1}, {0, -2, 0, 1}, {0, 151, 0, 1}, {0, 1, -1, 1}, {0, 1, 10000, 1},
            {0, 1, 0, 0}, {0, 1, 0, 100}, {0, -1, 0, 0}, {0, -1, 10000, 1}};
        for (int[] b : bad) {
            due("book, bad", x.book(b[0], b[1], b[2], b[3]), -10);
        }
        due("book", x.book(0, 2, 0, 1), -1);
        due("count(4)", x.count(4), 1);
        x.most(3);
        due("HELD 3/4", x.held(3, 4, 0), 1);
        due("MISSED 3/4", x.held(3, 4, 1), 0);
        due("book anew", x.book(0, 3, 0, 1), 2);
        due("HELD 3/4", x.held(3, 4, 0), 0);
        due("MISSED 3/4", x.held(3, 4, 1), 1);
        due("HELD 4/5", x.held(4, 5, 0), 1);
        due("a book below the greatest place", x.book(0, 1, 0, 1), 3);
        due("MISSED 1/1", x.held(1, 1, 1), 1);
        x.book(0, 3, 1, 1);
        due("no fit: HELD", x.held(1, 1, 0), 0);
        due("no fit: MISSED", x.held(1, 1, 1), 0);
        x.book(0, 1, 0, 1);
        x.most(1);
        due("greatest place not below MOST: HELD", x.held(1, 1, 0), 0);
        due("greatest place not below MOST: MISSED", x.held(1, 1, 1), 0);
        x.book(5, 1, 9999, 99);
        due("a maker without numbers", x.held(1, 1000, 0), 1);
        due("count(4)", x.count(4), 2);
        due("not told any more", x.book(5, -1, 9999, 99), 1);
        due("count(4)", x.count(4), 1);
        due("HELD", x.held(1, 1000, 0), 0);
        int[][] worse = {{0, 1, 0}, {2, 1, 0}, {1, 1001, 0}, {1, 1, -1}, {1, 1, 2}};
        for (int[] b : worse) {
            due("held, bad", x.held(b[0], b[1], b[2]), -2);
        }
    }

    private static void fractionParts() {
        TankNumbers x = new TankNumbers();
        due("sign(-1)", x.sign(-1), -2);
        due("sign(3)", x.sign(3), -2);
        due("limb(-1, 0)", x.limb(-1, 0), -2);
        due("limb(2, 0)", x.limb(2, 0), -2);
        due("limb(0, -1)", x.limb(0, -1), -2);
        due("limb(1, -1)", x.limb(1, -1), -2);
        due("limb(1, 1)", x.limb(1, 1), -1);
        due("limb(1, BIG)", x.limb(1, BIG), -1);
        x.odds(0, 0, 1, 1);
        fraction(x, "1 by 150", 1, 150);
    }

    private static void count() {
        TankNumbers x = withNumbers(1, 2, 3);
        x.doubt(0, true);
        x.doubt(2, true);
        x.word(1, 0, 0, 9);
        x.said(0, 1, 1);
        x.said(0, 1, 1);
        x.book(1, 1, 0, 1);
        int[] want = {3, 2, 1, 2, 1};
        for (int what = 0; what < 5; what++) {
            due("count(" + what + ")", x.count(what), want[what]);
        }
        due("count(-1)", x.count(-1), -2);
        due("count(5)", x.count(5), -2);
    }

    private static long mixed(int... values) {
        long h = 433;
        for (int v : values) {
            h = 31 * h + v;
        }
        return h;
    }

    private static void digest() {
        TankNumbers x = new TankNumbers();
        due("digest of a new one", x.digest(), mixed(0, 0, 0, 0, 0,
                0, 0, 1022, 0, 0, 0, 1022, 0, 0, 0, 1022, 0, 0, 0, 1022, 0, 0, 0, 1022, 0, 0, 0, 1022, 0,
                150, 1, 1, 1, 1, 1, 1, 1, 1,
                -1, 0, 0, -1, 0, 0, -1, 0, 0, -1, 0, 0, -1, 0, 0, -1, 0, 0, 0, 0, 1, 1));
        x.find(1, 30, 4, -1, 2);
        x.find(1, 20, 5, 6, 0);
        x.find(3, 7, -1, 0, 1);
        x.doubt(2, true);
        x.most(9);
        x.word(2, 35, 11, 99);
        x.said(4, 10, 20);
        x.front(2, 3, 4);
        x.book(5, 12, 34, 56);
        x.book(0, 12, 34, 56);
        x.book(0, -1, 1, 2);
        x.agent(4, 0);
        due("digest", x.digest(), mixed(3, 1, 1, 1, 1,
                1, 30, 4, -1, 2, 0, 1, 20, 5, 6, 0, 0, 3, 7, -1, 0, 1, 1,
                0, 0, 1022, 0, 2, 10, 38, 2, 0, 0, 1022, 0, 0, 0, 1022, 0, 0, 0, 1022, 0, 0, 0, 1022, 0,
                9, 2, 35, 11, 99, 4, 10, 20, 1, 1, 1, 1, 3, 4, 1, 1,
                -1, 1, 2, -1, 0, 0, -1, 0, 0, -1, 0, 0, -1, 0, 0, 12, 34, 56, 1, 1, 1, 2, 1));
    }

    private static void constants() {
        due("NONE", TankNumbers.NONE, -1);
        due("BAD", TankNumbers.BAD, -2);
        due("NO", TankNumbers.NO, -3);
        due("FULL", TankNumbers.FULL, -4);
    }

    private static void firstHalf() {
        promise = "face"; constants();
        promise = "1"; newObject();
        promise = "2"; find();
        promise = "3"; doubt(); doubtCountsNowhere();
        promise = "4"; numbers();
        promise = "5"; fits();
        promise = "6"; most();
        promise = "7"; odds();
        promise = "8"; atLeast();
        promise = "9"; span();
        promise = "10"; told();
        promise = "11"; far();
        promise = "12"; moulds();
        promise = "13"; thereAre();
        promise = "14"; can();
    }

    public static void main(String[] args) {
        firstHalf();
        promise = "15"; words();
        promise = "16"; wordless();
        promise = "17"; keys();
        promise = "18"; may();
        promise = "19"; reads();
        promise = "20"; runs();
        promise = "21"; gap();
        promise = "22"; chance();
        promise = "23, 24, 25"; agents(); putRightGreatest();
        promise = "26, 27"; fronts();
        promise = "28, 29"; books();
        promise = "30, 31"; fractionParts();
        promise = "32"; count();
        promise = "33"; digest();
        System.out.println(wrong == 0 ? "all answers are as due" : wrong + " answers are not as due");
        if (wrong != 0) {
            System.exit(1);
        }
    }
}
