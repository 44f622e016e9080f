import java.math.BigInteger;

/** Promises 23 to 33 (agents, fronts, books, looks): each sentence that names an edge, with a test of its own. */
public final class EdgesOfBooksTest {
    private static final int NONE = Bench.NONE, BAD = Bench.BAD, NO = Bench.NO, FULL = Bench.FULL;

    private EdgesOfBooksTest() {
    }

    // ---- 23: said

    static void promise23Agent0To5() {
        Bench.ends(0, 0, 5, "said", 0, 4, 4);
        TankNumbers x = new TankNumbers();
        Bench.answers(x, 1, "said", 0, 4, 8);
        Bench.answers(x, 2, "said", 5, 8, 4);
        Bench.gives(x, 2, 1, "agent", 0, 0);
        Bench.gives(x, 1, 2, "agent", 5, 0);
    }

    static void promise23Said0To9999() {
        Bench.ends(1, 0, 9999, "said", 0, 4, 4);
        TankNumbers x = new TankNumbers();
        Bench.answers(x, 1, "said", 0, 0, 1);
        Bench.answers(x, 2, "said", 0, 9999, 1);
        Bench.gives(x, 2, 9999, "agent", 0, 0);
    }

    static void promise23So0To9999() {
        Bench.ends(2, 0, 9999, "said", 0, 4, 4);
        TankNumbers x = new TankNumbers();
        Bench.answers(x, 1, "said", 0, 1, 0);
        Bench.answers(x, 2, "said", 0, 1, 9999);
        Bench.gives(x, 9999, 2, "agent", 0, 0);
    }

    static void promise23HowManyPairsOfAllAgents() {
        TankNumbers x = new TankNumbers();
        for (int i = 1; i <= 20; i++) {
            Bench.answers(x, i, "said", i % 6, i, i);
            Bench.answers(x, i, "count", 3);
        }
    }

    static void promise23The20thHasRoomThe21stIsFull() {
        TankNumbers x = new TankNumbers();
        for (int i = 0; i < 19; i++) {
            x.said(1, 1, 1);
        }
        Bench.answers(x, 20, "said", 1, 1, 21);
        Bench.gives(x, 2, 1, "agent", 1, 0);
        Bench.answers(x, FULL, "said", 1, 1, 21);
        Bench.answers(x, FULL, "said", 2, 1, 1);
        Bench.gives(x, 2, 1, "agent", 1, 0);
        Bench.answers(x, NO, "agent", 2, 0);
        Bench.answers(x, 20, "count", 3);
    }

    static void promise23FullChangesNothing() {
        Bench.refused(Bench::full, FULL, "said", 0, 4, 4);
        Bench.refused(Bench::full, FULL, "said", 5, 9999, 9999);
    }

    static void promise23BadIsAheadOfFull() {
        Bench.refused(Bench::full, BAD, "said", 6, 4, 4);
        Bench.refused(Bench::full, BAD, "said", 0, 10000, 4);
        Bench.refused(Bench::full, BAD, "said", 0, 4, -1);
    }

    static void promise23LikePairsAreTwo() {
        TankNumbers x = new TankNumbers();
        Bench.answers(x, 1, "said", 0, 3, 5);
        Bench.answers(x, 2, "said", 0, 3, 5);
        Bench.gives(x, 2, 1, "agent", 0, 1);
    }

    // ---- 24: agent

    private static TankNumbers withPairs(int... saidAndSo) {
        TankNumbers x = new TankNumbers();
        for (int i = 0; i < saidAndSo.length; i += 2) {
            x.said(1, saidAndSo[i], saidAndSo[i + 1]);
        }
        return x;
    }

    static void promise24Agent0To5() {
        Bench.ends(0, 0, 5, "agent", 0, 0);
        Bench.gives(Bench.some(), 15, 13, "agent", 0, 0);
        Bench.gives(Bench.some(), 4, 1, "agent", 5, 1);
    }

    static void promise24What0And1() {
        Bench.ends(1, 0, 1, "agent", 0, 0);
        Bench.gives(Bench.some(), 15, 13, "agent", 0, 0);
        Bench.gives(Bench.some(), 3, 1, "agent", 0, 1);
    }

    static void promise24NothingTold() {
        Bench.refused(TankNumbers::new, NO, "agent", 0, 0);
        Bench.refused(TankNumbers::new, NO, "agent", 0, 1);
        Bench.refused(Bench::some, NO, "agent", 1, 0);
        Bench.refused(Bench::some, NO, "agent", 1, 1);
        Bench.refused(Bench::full, NO, "agent", 5, 1);
    }

    static void promise24AllSaidAre0() {
        Bench.refused(Bench::some, NO, "agent", 5, 0);
        Bench.refused(() -> withPairs(0, 0, 0, 9999), NO, "agent", 1, 0);
        Bench.gives(withPairs(0, 7, 1, 0), 7, 1, "agent", 1, 0);
    }

    static void promise24WorthWhereAllSaidAre0() {
        Bench.gives(withPairs(0, 0), 0, 1, "agent", 1, 1);
        Bench.gives(withPairs(0, 9999), 9999, 1, "agent", 1, 1);
        Bench.gives(withPairs(0, 9999, 0, 0), 9999, 2, "agent", 1, 1);
    }

    static void promise24HabitOf0() {
        Bench.gives(withPairs(1, 0), 0, 1, "agent", 1, 0);
        Bench.gives(withPairs(9999, 0, 9999, 0), 0, 1, "agent", 1, 0);
    }

    static void promise24HabitIsOfAllTogether() {
        // not 1 by 2 and 3 by 1
        Bench.gives(withPairs(2, 1, 1, 3), 4, 3, "agent", 1, 0);
        Bench.gives(withPairs(1, 9999), 9999, 1, "agent", 1, 0);
        Bench.gives(withPairs(9999, 1), 1, 9999, "agent", 1, 0);
    }

    static void promise24WorthIsOfSizes() {
        // 3 too many and 3 too few: 3, not 0
        Bench.gives(withPairs(5, 2, 2, 5), 3, 1, "agent", 1, 1);
        Bench.gives(withPairs(9999, 0), 9999, 1, "agent", 1, 1);
        Bench.gives(withPairs(0, 1, 1, 1, 1, 1), 1, 3, "agent", 1, 1);
        Bench.gives(withPairs(7, 7), 0, 1, "agent", 1, 1);
    }

    static void promise24TwentyGreatestPairs() {
        TankNumbers x = new TankNumbers();
        for (int i = 0; i < 20; i++) {
            x.said(1, 0, 9999);
        }
        Bench.gives(x, 9999, 1, "agent", 1, 1);
        Bench.answers(x, NO, "agent", 1, 0);
    }

    static void promise24BadIsAheadOfNo() {
        Bench.refused(TankNumbers::new, BAD, "agent", 0, 2);
        Bench.refused(TankNumbers::new, BAD, "agent", 6, 0);
        Bench.refused(Bench::some, BAD, "agent", 5, -1);
    }

    // ---- 25: putRight

    static void promise25Agent0To5() {
        Bench.ends(0, 0, 5, "putRight", 0, 3);
        TankNumbers x = new TankNumbers();
        x.said(0, 2, 1);
        x.said(5, 1, 2);
        Bench.gives(x, 5, 2, "putRight", 0, 5);
        Bench.gives(x, 10, 1, "putRight", 5, 5);
    }

    static void promise25X0To9999() {
        Bench.ends(1, 0, 9999, "putRight", 0, 3);
        Bench.gives(withPairs(2, 1), 0, 1, "putRight", 1, 0);
        Bench.gives(withPairs(2, 1), 9999, 2, "putRight", 1, 9999);
    }

    static void promise25NothingTold() {
        Bench.refused(TankNumbers::new, NO, "putRight", 0, 3);
        Bench.refused(Bench::some, NO, "putRight", 1, 0);
        Bench.refused(Bench::full, NO, "putRight", 5, 9999);
    }

    static void promise25AllSaidAre0() {
        Bench.refused(Bench::some, NO, "putRight", 5, 3);
        Bench.refused(Bench::some, NO, "putRight", 5, 0);
    }

    static void promise25AHabitOf0() {
        Bench.gives(withPairs(3, 0), 0, 1, "putRight", 1, 9999);
    }

    static void promise25TheGreatest() {
        TankNumbers x = new TankNumbers();
        for (int i = 0; i < 20; i++) {
            x.said(1, i == 19 ? 1 : 0, 9999);
        }
        Bench.answers(x, 1, "putRight", 1, 9999);
        Bench.isLong(x, 0, BigInteger.valueOf(20L * 9999 * 9999));
        Bench.isLong(x, 1, BigInteger.ONE);
    }

    static void promise25BadIsAheadOfNo() {
        Bench.refused(TankNumbers::new, BAD, "putRight", 0, 10000);
        Bench.refused(Bench::some, BAD, "putRight", 5, -1);
        Bench.refused(Bench::some, BAD, "putRight", 6, 3);
    }

    // ---- 26: front

    static void promise26Front0To3() {
        Bench.ends(0, 0, 3, "front", 0, 1, 2);
        TankNumbers x = new TankNumbers();
        x.find(0, 0, NONE, NONE, 0);
        x.find(0, 0, NONE, NONE, 3);
        Bench.answers(x, 1, "front", 0, 1, 2);
        Bench.answers(x, 1, "front", 3, 1, 3);
        Bench.gives(x, 2, 1, "lost", 0);
        Bench.gives(x, 3, 1, "lost", 3);
    }

    static void promise26AIsAbove0AndAtMostB() {
        Bench.ends(1, 1, 1000, "front", 0, 1, 1000);
        Bench.bad("front", 0, 8, 7);
        Bench.bad("front", 0, 0, 0);
        Bench.bad("front", 0, -1, -1);
        Bench.bad("front", 0, -2, 5);
        Bench.answers(new TankNumbers(), 1, "front", 0, 1, 1000);
        Bench.answers(new TankNumbers(), 1, "front", 0, 7, 7);
    }

    static void promise26BIsAtMost1000() {
        Bench.ends(2, 1, 1000, "front", 0, 1, 2);
        Bench.bad("front", 0, 1001, 1001);
        Bench.answers(new TankNumbers(), 1, "front", 0, 1000, 1000);
        Bench.answers(new TankNumbers(), 1, "front", 0, 1, 1);
    }

    static void promise26ToldAgain() {
        TankNumbers x = Bench.withNumbers(1);
        Bench.answers(x, 1, "front", 0, 1, 2);
        Bench.answers(x, 1, "front", 0, 1, 2);
        Bench.gives(x, 2, 1, "lost", 0);
        Bench.answers(x, 1, "front", 0, 1, 1);
        Bench.gives(x, 1, 1, "lost", 0);
    }

    static void promise26OtherFrontsStay() {
        TankNumbers x = new TankNumbers();
        x.find(0, 0, NONE, NONE, 1);
        x.find(0, 0, NONE, NONE, 2);
        x.front(1, 1, 1000);
        Bench.gives(x, 1000, 1, "lost", 1);
        Bench.gives(x, 1, 1, "lost", 2);
        Bench.gives(x, 0, 1, "lost", 0);
    }

    static void promise26TheFractionStays() {
        TankNumbers x = withPairs(2, 1);
        x.agent(1, 0);
        Bench.answers(x, 1, "front", 0, 1, 3);
        Bench.isFraction(x, "behind front", 1, 2);
    }

    // ---- 27: lost

    static void promise27NoneOr0To3() {
        Bench.ends(0, NONE, 3, "lost", 0);
        TankNumbers x = new TankNumbers();
        for (int i = 0; i < 10; i++) {
            x.find(0, 0, NONE, NONE, i < 1 ? 0 : i < 3 ? 1 : i < 6 ? 2 : 3);
        }
        for (int front = 0; front <= 3; front++) {
            Bench.gives(x, front + 1, 1, "lost", front);
        }
        Bench.gives(x, 10, 1, "lost", NONE);
    }

    static void promise27NothingFound() {
        for (int front = NONE; front <= 3; front++) {
            Bench.gives(new TankNumbers(), 0, 1, "lost", front);
        }
        TankNumbers x = new TankNumbers();
        x.front(0, 3, 7);
        Bench.gives(x, 0, 1, "lost", 0);
        Bench.gives(x, 0, 1, "lost", NONE);
    }

    static void promise27SixtyOf1By1000() {
        TankNumbers x = new TankNumbers();
        for (int i = 0; i < 60; i++) {
            x.find(i % 6, 0, NONE, NONE, 3);
        }
        x.front(3, 1, 1000);
        Bench.gives(x, 60000, 1, "lost", 3);
        Bench.gives(x, 60000, 1, "lost", NONE);
        x.front(3, 1000, 1000);
        Bench.gives(x, 60, 1, "lost", 3);
        x.front(3, 999, 1000);
        Bench.gives(x, 20000, 333, "lost", 3);
    }

    static void promise27AllTogetherOfUnlikeParts() {
        TankNumbers x = new TankNumbers();
        int[] a = {7, 989, 997, 991};
        int[] b = {1000, 998, 999, 1000};
        BigInteger above = BigInteger.ZERO;
        BigInteger below = BigInteger.ONE;
        for (int front = 0; front <= 3; front++) {
            for (int i = 0; i < 15; i++) {
                x.find(i % 6, i, NONE, NONE, front);
            }
            x.front(front, a[front], b[front]);
            BigInteger part = BigInteger.valueOf(a[front]);
            above = above.multiply(part).add(below.multiply(BigInteger.valueOf(15L * b[front])));
            below = below.multiply(part);
        }
        BigInteger shared = above.gcd(below);
        Bench.answers(x, 1, "lost", NONE);
        Bench.isLong(x, 0, above.divide(shared));
        Bench.isLong(x, 1, below.divide(shared));
    }

    // ---- 28: book

    static void promise28Maker0To5() {
        Bench.ends(0, 0, 5, "book", 0, 5, 100, 4);
        TankNumbers x = new TankNumbers();
        Bench.answers(x, NONE, "book", 0, 5, 0, 1);
        Bench.answers(x, NONE, "book", 5, 6, 0, 1);
        Bench.answers(x, 5, "book", 0, 7, 0, 1);
        Bench.answers(x, 6, "book", 5, 7, 0, 1);
    }

    static void promise28Many1To150OrNone() {
        Bench.ends(1, 1, 150, "book", 0, 5, 100, 4);
        Bench.bad("book", 0, -2, 100, 4);
        TankNumbers x = new TankNumbers();
        Bench.answers(x, NONE, "book", 0, 1, 0, 1);
        Bench.answers(x, 1, "book", 0, 150, 0, 1);
        Bench.answers(x, 150, "book", 0, NONE, 0, 1);
        Bench.answers(x, NONE, "book", 0, 2, 0, 1);
    }

    static void promise28First0To9999() {
        Bench.ends(2, 0, 9999, "book", 0, 5, 100, 4);
        TankNumbers x = new TankNumbers();
        Bench.answers(x, NONE, "book", 0, 1, 0, 1);
        Bench.answers(x, 1, "book", 0, 2, 9999, 1);
    }

    static void promise28Step1To99() {
        Bench.ends(3, 1, 99, "book", 0, 5, 100, 4);
        TankNumbers x = new TankNumbers();
        Bench.answers(x, NONE, "book", 0, 1, 0, 1);
        Bench.answers(x, 1, "book", 0, 2, 0, 99);
    }

    static void promise28FirstAndStepAsToldWithNoneToo() {
        Bench.ends(2, 0, 9999, "book", 0, NONE, 100, 4);
        Bench.ends(3, 1, 99, "book", 0, NONE, 100, 4);
        Bench.ends(0, 0, 5, "book", 0, NONE, 100, 4);
    }

    static void promise28NoneIsNoBook() {
        TankNumbers x = new TankNumbers();
        Bench.answers(x, NONE, "book", 3, NONE, 0, 1);
        Bench.answers(x, 0, "count", 4);
        Bench.answers(x, NONE, "book", 3, 9, 0, 1);
        Bench.answers(x, 1, "count", 4);
        Bench.answers(x, 9, "book", 3, NONE, 0, 1);
        Bench.answers(x, 0, "count", 4);
        Bench.answers(x, 0, "held", 1, 1, 0);
        Bench.answers(x, 0, "held", 1, 1, 1);
    }

    static void promise28WhatManyWasThroughNone() {
        TankNumbers x = new TankNumbers();
        Bench.answers(x, NONE, "book", 2, 150, 9, 9);
        Bench.answers(x, 150, "book", 2, NONE, 8, 8);
        Bench.answers(x, NONE, "book", 2, NONE, 7, 7);
        Bench.answers(x, NONE, "book", 2, 1, 6, 6);
        Bench.answers(x, 1, "book", 2, 1, 5, 5);
    }

    static void promise28AllSixHaveOne() {
        TankNumbers x = new TankNumbers();
        for (int maker = 0; maker <= 5; maker++) {
            Bench.answers(x, NONE, "book", maker, 1 + maker, 0, 1);
            Bench.answers(x, maker + 1, "count", 4);
        }
        for (int maker = 0; maker <= 5; maker++) {
            Bench.answers(x, 1 + maker, "book", maker, 150, 0, 1);
        }
        Bench.answers(x, 6, "count", 4);
    }

    static void promise28MostDoesNotBindIt() {
        TankNumbers x = new TankNumbers();
        x.most(1);
        Bench.answers(x, NONE, "book", 0, 150, 0, 1);
        Bench.answers(x, 150, "book", 0, 1, 0, 1);
    }

    // ---- 29: held

    /** PLACES 0 and 1 of at most 4 things, by first 50 and step 10: 2 by 3, 2 by 9, 1 by 9. */
    private static TankNumbers withBook(int many) {
        TankNumbers x = Bench.withNumbers(50, 60);
        x.most(4);
        x.book(0, many, 50, 10);
        return x;
    }

    private static void held(TankNumbers x, int a, int b, int held, int missed) {
        Bench.answers(x, held, "held", a, b, 0);
        Bench.answers(x, missed, "held", a, b, 1);
    }

    static void promise29AIsAbove0AndAtMostB() {
        Bench.ends(0, 1, 1000, "held", 1, 1000, 0);
        Bench.bad("held", 8, 7, 0);
        Bench.bad("held", 0, 0, 0);
        Bench.bad("held", -1, -1, 1);
        held(withBook(2), 1, 1000, 1, 0);
        held(withBook(4), 7, 7, 1, 0);
    }

    static void promise29BIsAtMost1000() {
        Bench.ends(1, 1, 1000, "held", 1, 1000, 0);
        Bench.bad("held", 1001, 1001, 0);
        held(withBook(4), 1000, 1000, 1, 0);
        held(withBook(4), 1, 1, 1, 0);
    }

    static void promise29What0And1() {
        Bench.ends(2, 0, 1, "held", 1, 2, 0);
        held(withBook(2), 1, 2, 1, 0);
        held(withBook(3), 1, 2, 0, 1);
    }

    static void promise29NoBook() {
        held(new TankNumbers(), 1, 1, 0, 0);
        held(Bench.withNumbers(0, 1), 1, 1, 0, 0);
        held(withBook(NONE), 1, 1, 0, 0);
    }

    static void promise29WithinTheSpanAtBothEnds() {
        held(withBook(1), 8, 9, 0, 1);
        held(withBook(2), 8, 9, 1, 0);
        held(withBook(3), 8, 9, 1, 0);
        held(withBook(4), 8, 9, 0, 1);
        held(withBook(3), 2, 3, 0, 1);
        held(withBook(3), 667, 1000, 1, 0);
    }

    static void promise29ABookAboveMostIsMissed() {
        held(withBook(4), 1, 1, 1, 0);
        held(withBook(5), 1, 1, 0, 1);
        held(withBook(150), 1, 1, 0, 1);
    }

    static void promise29WhereItDoesNotFitNeither() {
        TankNumbers x = withBook(2);
        x.book(0, 2, 51, 1);
        held(x, 1, 1, 0, 0);
        x.book(0, 2, 50, 9);
        held(x, 1, 1, 0, 0);
    }

    static void promise29WhereTheGreatestPlaceIsMostNeither() {
        TankNumbers x = withBook(2);
        x.book(0, 4, 30, 10);
        held(x, 1, 1, 1, 0);
        x.book(0, 4, 20, 10);
        held(x, 1, 1, 0, 0);
        x.most(5);
        held(x, 1, 1, 0, 1);
        x.book(0, 5, 20, 10);
        held(x, 1, 1, 1, 0);
    }

    static void promise29AMakerWithoutNumbers() {
        TankNumbers x = new TankNumbers();
        x.most(10);
        x.book(5, 5, 9999, 99);
        held(x, 1, 2, 1, 0);
        x.book(5, 6, 9999, 99);
        held(x, 1, 2, 0, 1);
        x.book(5, 1, 9999, 99);
        held(x, 1, 1000, 1, 0);
        x.book(5, 10, 9999, 99);
        held(x, 1, 1, 1, 0);
    }

    static void promise29AllSixMakers() {
        TankNumbers x = new TankNumbers();
        x.most(10);
        for (int maker = 0; maker <= 5; maker++) {
            x.book(maker, 1 + maker, 0, 1);
        }
        held(x, 1, 1, 6, 0);
        held(x, 1, 10, 1, 5);
        held(x, 1, 2, 5, 1);
    }

    static void promise29TheFractionStays() {
        TankNumbers x = withBook(2);
        x.odds(0, 50, 10, 3);
        held(x, 1, 2, 1, 0);
        Bench.isFraction(x, "behind held", 2, 9);
    }

    // ---- 30: sign

    static void promise30What0To2() {
        Bench.ends(0, 0, 2, "sign", 0);
        TankNumbers x = withPairs(3, 2);
        x.agent(1, 0);
        for (int what = 0; what <= 2; what++) {
            Bench.answers(x, 1, "sign", what);
        }
    }

    static void promise30Of0() {
        TankNumbers x = withPairs(3, 0);
        x.putRight(1, 9999);
        Bench.answers(x, 0, "sign", 0);
        Bench.answers(x, 0, "sign", 1);
        Bench.answers(x, 1, "sign", 2);
    }

    static void promise30From1LimbTo2() {
        // 9513 times 112871 is 1073741823, the greatest of one limb
        TankNumbers x = withPairs(1, 9999, 0, 9999, 0, 9999, 0, 9999, 0, 9999, 0, 9999, 0, 9999, 0, 9999, 0, 9999,
                0, 9999, 0, 9999, 0, 2882);
        Bench.answers(x, 1, "putRight", 1, 9513);
        Bench.answers(x, 1, "sign", 1);
        Bench.answers(x, 1073741823, "limb", 0, 0);
        Bench.answers(x, NONE, "limb", 0, 1);
        // 8192 times 131072 is 1073741824, the least of two
        TankNumbers y = withPairs(1, 9999, 0, 9999, 0, 9999, 0, 9999, 0, 9999, 0, 9999, 0, 9999, 0, 9999, 0, 9999,
                0, 9999, 0, 9999, 0, 9999, 0, 9999, 0, 1085);
        Bench.answers(y, 1, "putRight", 1, 8192);
        Bench.answers(y, 2, "sign", 1);
        Bench.answers(y, 0, "limb", 0, 0);
        Bench.answers(y, 1, "limb", 0, 1);
        Bench.answers(y, 1, "sign", 2);
    }

    static void promise30LimbsBelow() {
        // 2 of 16 to the 8: 1 by 2 to the 31
        TankNumbers x = Bench.withWeeks(0, 0, 0, 0, 0, 0, 0, 0);
        Bench.answers(x, 1, "chance", 0, 16);
        Bench.answers(x, 1, "sign", 1);
        Bench.answers(x, 2, "sign", 2);
        Bench.answers(x, 0, "limb", 1, 0);
        Bench.answers(x, 2, "limb", 1, 1);
        // 2 of 8 to the 10: 1 by 2 to the 29
        TankNumbers y = Bench.withWeeks(0, 0, 0, 0, 0, 0, 0, 0, 0, 0);
        Bench.gives(y, 1, 536870912, "chance", 0, 8);
    }

    static void promise30LowestTerms() {
        Bench.gives(withPairs(9998, 4999), 1, 2, "agent", 1, 0);
        Bench.gives(withPairs(9999, 9999), 1, 1, "agent", 1, 0);
        Bench.gives(withPairs(64, 96), 3, 2, "agent", 1, 0);
    }

    // ---- 31: limb

    private static TankNumbers withALongFraction() {
        TankNumbers x = Bench.withMoulds(0, 1, 2, 3, 4, 5, 6, 7, 8, 9, 10, 11, 12, 13, 14, 15, 16, 17, 18);
        x.thereAre(0, 20);
        return x;
    }

    static void promise31Which0And1() {
        Bench.ends(0, 0, 1, "limb", 0, 0);
        TankNumbers x = withPairs(3, 2);
        x.agent(1, 0);
        Bench.answers(x, 2, "limb", 0, 0);
        Bench.answers(x, 3, "limb", 1, 0);
    }

    static void promise31IBelow0() {
        for (int i : new int[] {-1, -2, -64, Bench.LEAST}) {
            Bench.bad("limb", 0, i);
            Bench.bad("limb", 1, i);
        }
    }

    static void promise31NotSoMany() {
        TankNumbers x = withALongFraction();
        int above = x.sign(1);
        int below = x.sign(2);
        Bench.due("limbs above", above, 3);
        Bench.due("limbs below", below, 3);
        for (int i : new int[] {3, 4, 63, 64, 65, Bench.GREATEST}) {
            Bench.answers(x, NONE, "limb", 0, i);
            Bench.answers(x, NONE, "limb", 1, i);
        }
        // 19 to the 19 above, and with 20 to the 18 below
        Bench.isLong(x, 0, BigInteger.valueOf(19).pow(19));
        Bench.isLong(x, 1, BigInteger.valueOf(19).pow(19).add(BigInteger.valueOf(20).pow(18)));
    }

    static void promise31NoLimbAboveOf0() {
        TankNumbers x = withALongFraction();
        x.thereAre(0, 0);
        Bench.answers(x, NONE, "limb", 0, 0);
        Bench.answers(x, 1, "limb", 1, 0);
        Bench.answers(x, NONE, "limb", 1, 1);
    }

    static void promise31AShorterOneLeavesNothingBehind() {
        TankNumbers x = withALongFraction();
        x.find(0, 0, NONE, 19, 0);
        Bench.gives(x, 1, 1, "thereAre", 0, 20);
    }

    static void promise31BadIsAheadOfNone() {
        Bench.refused(Bench::some, BAD, "limb", 2, 99);
        Bench.refused(Bench::some, BAD, "limb", -1, Bench.GREATEST);
    }

    // ---- 32: count

    static void promise32What0To4() {
        Bench.ends(0, 0, 4, "count", 0);
        int[] some = {7, 1, 2, 3, 2};
        int[] full = {60, 2, 12, 20, 6};
        for (int what = 0; what <= 4; what++) {
            Bench.answers(Bench.some(), some[what], "count", what);
            Bench.answers(Bench.full(), full[what], "count", what);
            Bench.answers(new TankNumbers(), 0, "count", what);
        }
    }

    static void promise32RefusedOnesAreNotCounted() {
        TankNumbers x = new TankNumbers();
        x.find(6, 0, 0, 0, 0);
        x.doubt(0, true);
        x.word(1, 6, 0, 0);
        x.said(6, 0, 0);
        x.book(6, 1, 0, 1);
        for (int what = 0; what <= 4; what++) {
            Bench.answers(x, 0, "count", what);
        }
    }

    // ---- 33: digest

    private static final int[] NO_MAKERS = {
        0, 0, 1022, 0, 0, 0, 1022, 0, 0, 0, 1022, 0, 0, 0, 1022, 0, 0, 0, 1022, 0, 0, 0, 1022, 0};
    private static final int[] NO_FRONTS = {1, 1, 1, 1, 1, 1, 1, 1};
    private static final int[] NO_BOOKS = {-1, 0, 0, -1, 0, 0, -1, 0, 0, -1, 0, 0, -1, 0, 0, -1, 0, 0};

    /** In the document's order, from the parts that are told. */
    private static long digestOf(
            int[] counts, int[] finds, int[] makers, int most, int[] rows, int[] fronts, int[] rest) {
        long h = Bench.mixed(433, counts);
        h = Bench.mixed(h, finds);
        h = Bench.mixed(h, makers);
        h = Bench.mixed(h, most);
        h = Bench.mixed(h, rows);
        h = Bench.mixed(h, fronts);
        return Bench.mixed(h, rest);
    }

    private static int[] joined(int[] first, int... second) {
        int[] all = java.util.Arrays.copyOf(first, first.length + second.length);
        System.arraycopy(second, 0, all, first.length, second.length);
        return all;
    }

    static void promise33OfANewObject() {
        long want = digestOf(new int[5], new int[0], NO_MAKERS, 150, new int[0], NO_FRONTS,
                joined(NO_BOOKS, 0, 0, 1, 1));
        Bench.due("digest()", new TankNumbers().digest(), want);
    }

    static void promise33NoneOfWeekAndMouldAndDoubted() {
        TankNumbers x = new TankNumbers();
        x.find(5, 9999, NONE, NONE, 3);
        x.find(0, 0, 29, 19, 0);
        x.doubt(0, true);
        int[] makers = NO_MAKERS.clone();
        makers[0] = 1;
        makers[3] = 1;
        int[] finds = {5, 9999, -1, -1, 3, 1, 0, 0, 29, 19, 0, 0};
        long want = digestOf(new int[] {2, 1, 0, 0, 0}, finds, makers, 150, new int[0], NO_FRONTS,
                joined(NO_BOOKS, 0, 0, 1, 1));
        Bench.due("digest()", x.digest(), want);
    }

    static void promise33MostWordsPairsFrontsAndBooks() {
        TankNumbers x = new TankNumbers();
        x.most(1);
        x.word(4, 1295, 0, 9999);
        x.word(1, 0, 3, 3);
        x.said(5, 9999, 0);
        x.front(3, 2, 1000);
        x.front(0, 2, 4);
        x.book(5, 150, 9999, 99);
        x.book(0, 1, 7, 1);
        x.agent(5, 0);
        int[] rows = {4, 1295, 0, 9999, 1, 0, 3, 3, 5, 9999, 0};
        int[] fronts = {2, 4, 1, 1, 1, 1, 2, 1000};
        int[] books = {1, 7, 1, -1, 0, 0, -1, 0, 0, -1, 0, 0, -1, 0, 0, 150, 9999, 99};
        long want = digestOf(new int[] {0, 0, 2, 1, 2}, new int[0], NO_MAKERS, 1, rows, fronts,
                joined(books, 0, 0, 1, 1));
        Bench.due("digest()", x.digest(), want);
    }

    static void promise33ABookThatIsNotToldAnyMore() {
        TankNumbers x = new TankNumbers();
        x.book(1, 150, 20, 3);
        x.book(1, NONE, 9999, 99);
        int[] books = NO_BOOKS.clone();
        books[4] = 9999;
        books[5] = 99;
        long want = digestOf(new int[5], new int[0], NO_MAKERS, 150, new int[0], NO_FRONTS, joined(books, 0, 0, 1, 1));
        Bench.due("digest()", x.digest(), want);
    }

    static void promise33FirstAndStepAsToldWhereManyNeverWas() {
        TankNumbers x = new TankNumbers();
        x.book(4, NONE, 5, 3);
        x.book(0, NONE, 0, 1);
        x.book(0, NONE, 0, 100);
        int[] books = {-1, 0, 1, -1, 0, 0, -1, 0, 0, -1, 0, 0, -1, 5, 3, -1, 0, 0};
        long want = digestOf(new int[5], new int[0], NO_MAKERS, 150, new int[0], NO_FRONTS, joined(books, 0, 0, 1, 1));
        Bench.due("digest()", x.digest(), want);
    }

    static void promise33AllLimbs() {
        TankNumbers x = new TankNumbers();
        for (int i = 0; i < 12; i++) {
            x.find(4, 5, 0, NONE, 1);
        }
        x.chance(4, 30);
        int[] finds = new int[0];
        for (int i = 0; i < 12; i++) {
            finds = joined(finds, 4, 5, 0, -1, 1, 0);
        }
        int[] makers = NO_MAKERS.clone();
        makers[16] = 1;
        makers[19] = 1;
        long below = 15L * 30 * 30 * 30 * 30 * 30 * 30 * 30 * 30 * 30 * 30 * 30;
        int[] rest = joined(NO_BOOKS, 1, 1, 2, 1, (int) (below & 1073741823), (int) (below >> 30));
        long want = digestOf(new int[] {12, 0, 0, 0, 0}, finds, makers, 150, new int[0], NO_FRONTS, rest);
        Bench.due("digest()", x.digest(), want);
    }

    static void promise33OfAFullObject() {
        int[] finds = new int[0];
        for (int i = 0; i < 60; i++) {
            finds = joined(finds, i % 6, 10 * i, i % 31 - 1, i % 21 - 1, i % 4, i == 0 || i == 59 ? 1 : 0);
        }
        int[] makers = new int[0];
        int[] runs = {5, 5, 6, 6, 6, 5};
        TankNumbers x = Bench.full();
        for (int maker = 0; maker <= 5; maker++) {
            makers = joined(makers, maker == 0 || maker == 5 ? 9 : 10, 60, 2 + 4 + 8 + 16 + 32 + 64, runs[maker]);
        }
        int[] rows = new int[0];
        for (int i = 0; i < 12; i++) {
            rows = joined(rows, 1 + i % 2, i % 6, i % 2, i % 2 == 0 ? 8 : 98);
        }
        for (int i = 0; i < 20; i++) {
            rows = joined(rows, i % 5, 7 * i, 9 * i + 1);
        }
        int[] rest = new int[0];
        for (int i = 0; i < 6; i++) {
            rest = joined(rest, 20 + i, 10 * i, 60);
        }
        for (int i = 0; i < 3; i++) {
            rest = joined(rest, x.sign(i));
        }
        for (int which = 0; which <= 1; which++) {
            for (int i = 0; i < x.sign(1 + which); i++) {
                rest = joined(rest, x.limb(which, i));
            }
        }
        long want = digestOf(new int[] {60, 2, 12, 20, 6}, finds, makers, 150, rows,
                new int[] {1, 1, 1, 1, 1, 1, 3, 1000}, rest);
        Bench.due("digest()", x.digest(), want);
    }

    static void promise33AskingChangesNothing() {
        TankNumbers x = Bench.some();
        long first = x.digest();
        Bench.due("digest() again", x.digest(), first);
        Bench.looks(x);
        Bench.due("digest() behind looks", x.digest(), first);
        Bench.due("digest() of a like object", Bench.some().digest(), first);
    }

    public static void main(String[] args) {
        Bench.runAll(EdgesOfBooksTest.class, 23, 33);
    }
}
