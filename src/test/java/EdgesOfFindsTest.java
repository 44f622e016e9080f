import java.math.BigInteger;

/** Promises 1 to 11: each sentence of the document that names an edge, with a test of its own. */
public final class EdgesOfFindsTest {
    private static final int NONE = Bench.NONE, BAD = Bench.BAD, NO = Bench.NO, FULL = Bench.FULL;

    private EdgesOfFindsTest() {
    }

    // ---- 1: a new object

    static void promise01NothingIsThere() {
        TankNumbers x = new TankNumbers();
        for (int what = 0; what <= 4; what++) {
            Bench.answers(x, 0, "count", what);
        }
    }

    static void promise01NoFindHasANumberYet() {
        TankNumbers x = new TankNumbers();
        Bench.answers(x, BAD, "doubt", 0, 1);
        Bench.answers(x, BAD, "doubt", 0, 0);
        Bench.answers(x, BAD, "far", 0, 0, 1);
    }

    static void promise01NoMakerHasNumbersMouldsOrDates() {
        TankNumbers x = new TankNumbers();
        for (int maker = 0; maker <= 5; maker++) {
            Bench.answers(x, 0, "numbers", maker, 0);
            Bench.answers(x, 0, "numbers", maker, 1);
            Bench.answers(x, 1022, "numbers", maker, 2);
            Bench.answers(x, 1, "fits", maker, 9999, 99);
            Bench.answers(x, 0, "moulds", maker, 0);
            Bench.answers(x, 0, "moulds", maker, 1);
            Bench.answers(x, 0, "runs", maker, 0);
            Bench.answers(x, NONE, "runs", maker, 1);
            Bench.answers(x, NO, "gap", maker, 30, 0);
            Bench.answers(x, NO, "chance", maker, 30);
        }
    }

    static void promise01MostIs150AtFirst() {
        Bench.answers(new TankNumbers(), 150, "most", 150);
        Bench.gives(new TankNumbers(), 1, 150, "odds", 0, 0, 1, 150);
        Bench.gives(new TankNumbers(), 0, 1, "odds", 0, 0, 1, 151);
    }

    static void promise01TheFractionIs0By1AtFirst() {
        Bench.isFraction(new TankNumbers(), "at first", 0, 1);
    }

    static void promise01EachFrontIs1By1AtFirst() {
        TankNumbers x = new TankNumbers();
        for (int front = 0; front <= 3; front++) {
            Bench.gives(x, 0, 1, "lost", front);
            x.find(0, 0, NONE, NONE, front);
            Bench.gives(x, 1, 1, "lost", front);
        }
        Bench.gives(x, 4, 1, "lost", NONE);
    }

    static void promise01NoBookIsTold() {
        TankNumbers x = new TankNumbers();
        Bench.answers(x, 0, "held", 1, 1, 0);
        Bench.answers(x, 0, "held", 1, 1, 1);
        for (int maker = 0; maker <= 5; maker++) {
            Bench.answers(x, NONE, "book", maker, NONE, 0, 1);
        }
    }

    static void promise01NoAgentHasAHabit() {
        TankNumbers x = new TankNumbers();
        for (int agent = 0; agent <= 5; agent++) {
            Bench.answers(x, NO, "agent", agent, 0);
            Bench.answers(x, NO, "agent", agent, 1);
            Bench.answers(x, NO, "putRight", agent, 0);
        }
    }

    static void promise01NoWordIsThere() {
        TankNumbers x = new TankNumbers();
        Bench.answers(x, 151200, "keys");
        for (int letter = 0; letter <= 5; letter++) {
            Bench.answers(x, 1023, "may", letter);
        }
        Bench.answers(x, 0, "wordless");
    }

    static void promise01OneObjectKnowsNothingOfAnother() {
        TankNumbers first = new TankNumbers();
        long before = first.digest();
        TankNumbers other = Bench.full();
        Bench.due("the first one's digest", first.digest(), before);
        Bench.due("a later one's digest", new TankNumbers().digest(), before);
        Bench.answers(other, 60, "count", 0);
    }

    static void promise01HoldsFor512Calls() {
        TankNumbers x = new TankNumbers();
        for (int call = 1; call <= 509; call++) {
            Bench.answers(x, call <= 60 ? call - 1 : FULL, "find", call % 6, call, NONE, NONE, 0);
        }
        Bench.answers(x, 10, "numbers", 3, 0);
        Bench.answers(x, 60, "count", 0);
        Bench.answers(x, BAD, "find", 6, 0, 0, 0, 0);
    }

    // ---- 2: find

    static void promise02Maker0To5() {
        Bench.ends(0, 0, 5, "find", 0, 3, 3, 3, 3);
        TankNumbers x = new TankNumbers();
        Bench.answers(x, 0, "find", 0, 1, 0, 0, 0);
        Bench.answers(x, 1, "find", 5, 1, 0, 0, 0);
        Bench.answers(x, 1, "numbers", 0, 0);
        Bench.answers(x, 1, "numbers", 5, 0);
    }

    static void promise02Number0To9999() {
        Bench.ends(1, 0, 9999, "find", 0, 3, 3, 3, 3);
        TankNumbers x = new TankNumbers();
        Bench.answers(x, 0, "find", 0, 0, 0, 0, 0);
        Bench.answers(x, 1, "find", 0, 9999, 0, 0, 0);
        Bench.answers(x, 9999, "numbers", 0, 1);
    }

    static void promise02Week0To29OrNone() {
        Bench.ends(2, NONE, 29, "find", 0, 3, 3, 3, 3);
        TankNumbers x = new TankNumbers();
        Bench.answers(x, 0, "find", 0, 1, NONE, 0, 0);
        Bench.answers(x, NO, "gap", 0, 30, 0);
        Bench.answers(x, 1, "find", 0, 1, 0, 0, 0);
        Bench.answers(x, 1, "gap", 0, 30, 1);
        Bench.answers(x, 2, "find", 1, 1, 29, 0, 0);
        Bench.answers(x, NO, "gap", 1, 29, 0);
        Bench.answers(x, 29, "gap", 1, 30, 0);
    }

    static void promise02Mould0To19OrNone() {
        Bench.ends(3, NONE, 19, "find", 0, 3, 3, 3, 3);
        TankNumbers x = new TankNumbers();
        Bench.answers(x, 0, "find", 0, 1, 0, NONE, 0);
        Bench.answers(x, 0, "moulds", 0, 0);
        Bench.answers(x, 1, "find", 0, 1, 0, 0, 0);
        Bench.answers(x, 2, "find", 0, 1, 0, 19, 0);
        Bench.answers(x, 2, "moulds", 0, 0);
        Bench.answers(x, 2, "moulds", 0, 1);
    }

    static void promise02Front0To3() {
        Bench.ends(4, 0, 3, "find", 0, 3, 3, 3, 3);
        TankNumbers x = new TankNumbers();
        Bench.answers(x, 0, "find", 0, 1, 0, 0, 0);
        Bench.answers(x, 1, "find", 0, 1, 0, 0, 3);
        Bench.gives(x, 1, 1, "lost", 0);
        Bench.gives(x, 1, 1, "lost", 3);
        Bench.gives(x, 0, 1, "lost", 1);
    }

    static void promise02AllArgumentsBeyondAtOnce() {
        Bench.bad("find", 6, 10000, 30, 20, 4);
        Bench.bad("find", Bench.LEAST, Bench.LEAST, Bench.LEAST, Bench.LEAST, Bench.LEAST);
        Bench.bad("find", Bench.GREATEST, Bench.GREATEST, Bench.GREATEST, Bench.GREATEST, Bench.GREATEST);
    }

    static void promise02ItsNumberIs0To59AsTheyCome() {
        TankNumbers x = new TankNumbers();
        for (int i = 0; i < 60; i++) {
            Bench.answers(x, i, "find", 5 - i % 6, 9999 - i, NONE, NONE, 3 - i % 4);
            Bench.answers(x, i + 1, "count", 0);
        }
    }

    static void promise02LikeFindsAreTwo() {
        TankNumbers x = new TankNumbers();
        Bench.answers(x, 0, "find", 0, 8, 2, 1, 1);
        Bench.answers(x, 1, "find", 0, 8, 2, 1, 1);
        Bench.answers(x, 2, "count", 0);
    }

    static void promise02The60thHasRoomThe61stIsFull() {
        TankNumbers x = new TankNumbers();
        for (int i = 0; i < 59; i++) {
            x.find(i % 6, i, 0, 0, 0);
        }
        Bench.answers(x, 59, "find", 2, 500, 0, 0, 0);
        Bench.answers(x, FULL, "find", 2, 500, 0, 0, 0);
        Bench.answers(x, 60, "count", 0);
        Bench.answers(x, FULL, "find", 5, 9999, 29, 19, 3);
    }

    static void promise02FullChangesNothing() {
        Bench.refused(Bench::full, FULL, "find", 0, 3, 3, 3, 3);
        Bench.refused(Bench::full, FULL, "find", 5, 9999, NONE, NONE, 0);
    }

    static void promise02FullOfOneMakerIsFullForAll() {
        TankNumbers x = new TankNumbers();
        for (int i = 0; i < 60; i++) {
            x.find(2, i, NONE, NONE, 0);
        }
        Bench.answers(x, FULL, "find", 3, 0, NONE, NONE, 0);
    }

    static void promise02ADoubtedFindKeepsItsRoom() {
        Bench.answers(Bench.full(), 2, "count", 1);
        Bench.answers(Bench.full(), FULL, "find", 0, 0, 0, 0, 0);
    }

    static void promise02BadIsAheadOfFull() {
        Bench.refused(Bench::full, BAD, "find", 6, 3, 3, 3, 3);
        Bench.refused(Bench::full, BAD, "find", 0, 3, 3, 3, 4);
    }

    // ---- 3: doubt

    static void promise03NothingThereYet() {
        Bench.refused(TankNumbers::new, BAD, "doubt", 0, 1);
        Bench.refused(TankNumbers::new, BAD, "doubt", 0, 0);
    }

    static void promise03ItsNumberIsOneThatIsThere() {
        Bench.ends(0, 0, 59, "doubt", 0, 1);
        Bench.ends(0, 0, 59, "doubt", 0, 0);
        Bench.refused(Bench::some, BAD, "doubt", 7, 1);
        TankNumbers x = Bench.some();
        Bench.answers(x, 1, "doubt", 0, 1);
        Bench.answers(x, 1, "doubt", 6, 1);
        TankNumbers y = Bench.full();
        Bench.answers(y, 1, "doubt", 1, 1);
        Bench.answers(y, 1, "doubt", 58, 1);
        Bench.answers(y, BAD, "doubt", 60, 1);
    }

    static void promise03ItIsSo() {
        Bench.refused(Bench::some, NO, "doubt", 3, 1);
        Bench.refused(Bench::some, NO, "doubt", 0, 0);
        Bench.refused(Bench::full, NO, "doubt", 59, 1);
        Bench.refused(Bench::full, NO, "doubt", 58, 0);
    }

    static void promise03BadIsAheadOfNo() {
        Bench.refused(Bench::some, BAD, "doubt", 7, 0);
        Bench.refused(Bench::full, BAD, "doubt", 60, 0);
        Bench.refused(Bench::full, BAD, "doubt", NONE, 0);
    }

    static void promise03DoubtedAndNotAnyMore() {
        TankNumbers x = Bench.some();
        long before = x.digest();
        Bench.answers(x, 1, "doubt", 0, 1);
        Bench.answers(x, NO, "doubt", 0, 1);
        Bench.answers(x, 2, "count", 1);
        Bench.answers(x, 1, "doubt", 0, 0);
        Bench.answers(x, NO, "doubt", 0, 0);
        Bench.answers(x, 1, "count", 1);
        Bench.due("digest", x.digest(), before);
    }

    static void promise03AllMayBeDoubted() {
        TankNumbers x = new TankNumbers();
        for (int i = 0; i < 60; i++) {
            x.find(i % 6, i, 0, 0, 0);
            Bench.answers(x, 1, "doubt", i, 1);
        }
        Bench.answers(x, 60, "count", 1);
        Bench.answers(x, 60, "count", 0);
        Bench.gives(x, 0, 1, "lost", NONE);
    }

    private static TankNumbers oneDoubted() {
        TankNumbers x = new TankNumbers();
        x.find(0, 3, 4, 7, 1);
        x.find(0, 4, 2, 8, 1);
        x.doubt(1, true);
        x.most(3);
        return x;
    }

    static void promise03ADoubtedOneIsNotAmongNumbers() {
        Bench.answers(oneDoubted(), 1, "numbers", 0, 0);
        Bench.answers(oneDoubted(), 0, "numbers", 0, 1);
        Bench.answers(oneDoubted(), 1022, "numbers", 0, 2);
        Bench.answers(oneDoubted(), 1, "fits", 0, 1, 2);
    }

    static void promise03ADoubtedOneIsNotInOdds() {
        // PLACE 2 of 3 things alone, where PLACE 3 would not be below MOST
        Bench.gives(oneDoubted(), 1, 1, "odds", 0, 1, 1, 3);
        Bench.gives(oneDoubted(), 1, 1, "atLeast", 0, 1, 1, 3);
        Bench.answers(oneDoubted(), 3, "span", 0, 1, 1, 1, 1, 0);
        Bench.answers(oneDoubted(), 3, "told", 0, 1, 1, 0);
        Bench.answers(oneDoubted(), 5, "told", 0, 1, 1, 1);
        Bench.answers(oneDoubted(), 0, "far", 0, 1, 1);
    }

    static void promise03ADoubtedOneIsNotAmongMoulds() {
        Bench.answers(oneDoubted(), 1, "moulds", 0, 0);
        Bench.answers(oneDoubted(), 1, "moulds", 0, 1);
        Bench.gives(oneDoubted(), 1, 20, "thereAre", 0, 1);
    }

    static void promise03ADoubtedOneIsNotAmongDates() {
        TankNumbers x = oneDoubted();
        Bench.answers(x, 1, "runs", 0, 0);
        Bench.answers(x, NONE, "runs", 0, 1);
        Bench.answers(x, 4, "gap", 0, 5, 0);
        Bench.answers(x, NO, "gap", 0, 4, 0);
        Bench.answers(x, NO, "chance", 0, 4);
        Bench.gives(x, 2, 5, "chance", 0, 5);
    }

    static void promise03ADoubtedOneIsNotLost() {
        Bench.gives(oneDoubted(), 1, 1, "lost", 1);
        Bench.gives(oneDoubted(), 1, 1, "lost", NONE);
    }

    static void promise03ADoubtedOneIsNotHeldAgainstABook() {
        TankNumbers x = oneDoubted();
        x.book(0, 3, 1, 1);
        Bench.answers(x, 1, "held", 1, 1, 0);
        Bench.answers(x, 0, "held", 1, 1, 1);
    }

    static void promise03WhatIsToldOfADoubtedOneStays() {
        TankNumbers x = oneDoubted();
        Bench.answers(x, 2, "count", 0);
        Bench.answers(x, 1, "count", 1);
        Bench.answers(x, NO, "far", 1, 1, 1);
        Bench.answers(x, 2, "find", 0, 4, 2, 8, 1);
        Bench.answers(x, NO, "doubt", 1, 1);
    }

    // ---- 4: numbers

    static void promise04Maker0To5() {
        Bench.ends(0, 0, 5, "numbers", 0, 0);
        Bench.answers(Bench.some(), 3, "numbers", 0, 0);
        Bench.answers(Bench.some(), 1, "numbers", 5, 0);
    }

    static void promise04What0To2() {
        Bench.ends(1, 0, 2, "numbers", 0, 0);
        Bench.answers(Bench.some(), 3, "numbers", 0, 0);
        Bench.answers(Bench.some(), 4, "numbers", 0, 1);
        Bench.answers(Bench.some(), 2 + 4 + 16, "numbers", 0, 2);
    }

    static void promise04EachOnce() {
        Bench.answers(Bench.withNumbers(8, 8, 8), 1, "numbers", 0, 0);
        Bench.answers(Bench.withNumbers(9, 8, 9, 8), 2, "numbers", 0, 0);
        Bench.answers(Bench.withNumbers(9, 8, 9, 8), 1, "numbers", 0, 1);
    }

    static void promise04SixtyUnlikeOnes() {
        TankNumbers x = new TankNumbers();
        for (int i = 0; i < 60; i++) {
            x.find(3, i * 37 % 61, NONE, NONE, 0);
        }
        Bench.answers(x, 60, "numbers", 3, 0);
        Bench.answers(x, 1, "numbers", 3, 1);
    }

    static void promise04StepIs0OfFewerThanTwo() {
        Bench.answers(new TankNumbers(), 0, "numbers", 0, 1);
        Bench.answers(Bench.withNumbers(77), 0, "numbers", 0, 1);
        Bench.answers(Bench.withNumbers(77, 77), 0, "numbers", 0, 1);
        Bench.answers(Bench.withNumbers(77, 78), 1, "numbers", 0, 1);
    }

    static void promise04StepIsTheGreatestOfAllDifferences() {
        Bench.answers(Bench.withNumbers(9999, 0), 9999, "numbers", 0, 1);
        Bench.answers(Bench.withNumbers(30, 0, 12), 6, "numbers", 0, 1);
        Bench.answers(Bench.withNumbers(12, 0, 30, 31), 1, "numbers", 0, 1);
        Bench.answers(Bench.withNumbers(1001, 1, 501), 500, "numbers", 0, 1);
    }

    static void promise04MayGoOfStep0IsAll() {
        Bench.answers(new TankNumbers(), 1022, "numbers", 0, 2);
        Bench.answers(Bench.withNumbers(5), 1022, "numbers", 0, 2);
    }

    static void promise04MayGoIsOfSteps1To9() {
        Bench.answers(Bench.withNumbers(0, 1), 2, "numbers", 0, 2);
        Bench.answers(Bench.withNumbers(0, 9), 2 + 8 + 512, "numbers", 0, 2);
        Bench.answers(Bench.withNumbers(0, 10), 2 + 4 + 32, "numbers", 0, 2);
        Bench.answers(Bench.withNumbers(0, 8), 2 + 4 + 16 + 256, "numbers", 0, 2);
        Bench.answers(Bench.withNumbers(0, 2520), 1022, "numbers", 0, 2);
        Bench.answers(Bench.withNumbers(0, 9973), 2, "numbers", 0, 2);
    }

    static void promise04OtherMakersCountNot() {
        TankNumbers x = Bench.withNumbers(0, 10);
        x.find(1, 5, NONE, NONE, 0);
        Bench.answers(x, 10, "numbers", 0, 1);
        Bench.answers(x, 0, "numbers", 1, 1);
    }

    // ---- 5: fits

    static void promise05Maker0To5() {
        Bench.ends(0, 0, 5, "fits", 0, 100, 4);
        Bench.answers(Bench.some(), 1, "fits", 0, 100, 4);
        Bench.answers(Bench.some(), 0, "fits", 5, 100, 4);
        Bench.answers(Bench.some(), 1, "fits", 5, 99, 99);
    }

    static void promise05First0To9999() {
        Bench.ends(1, 0, 9999, "fits", 0, 100, 4);
        Bench.answers(Bench.some(), 1, "fits", 0, 0, 4);
        Bench.answers(Bench.some(), 0, "fits", 0, 9999, 4);
        Bench.answers(Bench.some(), 1, "fits", 5, 9999, 4);
    }

    static void promise05Step1To99() {
        Bench.ends(2, 1, 99, "fits", 0, 100, 4);
        Bench.answers(Bench.withNumbers(100, 199), 1, "fits", 0, 1, 1);
        Bench.answers(Bench.withNumbers(100, 199), 1, "fits", 0, 1, 99);
        Bench.answers(Bench.withNumbers(100, 199), 1, "fits", 0, 100, 99);
        Bench.answers(Bench.withNumbers(100, 199), 0, "fits", 0, 100, 98);
    }

    static void promise05WithoutNumbers() {
        Bench.answers(new TankNumbers(), 1, "fits", 0, 0, 1);
        Bench.answers(new TankNumbers(), 1, "fits", 5, 9999, 99);
        Bench.answers(Bench.some(), 1, "fits", 2, 9999, 99);
    }

    static void promise05EachIsFirstOrMore() {
        Bench.answers(Bench.withNumbers(50), 1, "fits", 0, 50, 7);
        Bench.answers(Bench.withNumbers(50), 0, "fits", 0, 51, 1);
        Bench.answers(Bench.withNumbers(50), 0, "fits", 0, 57, 7);
        Bench.answers(Bench.withNumbers(50, 57), 0, "fits", 0, 57, 7);
        Bench.answers(Bench.withNumbers(0), 0, "fits", 0, 1, 1);
    }

    static void promise05EachHasAWholePlace() {
        Bench.answers(Bench.withNumbers(57), 1, "fits", 0, 50, 7);
        Bench.answers(Bench.withNumbers(56), 0, "fits", 0, 50, 7);
        Bench.answers(Bench.withNumbers(58), 0, "fits", 0, 50, 7);
        Bench.answers(Bench.withNumbers(50, 57, 64, 70), 0, "fits", 0, 50, 7);
    }

    static void promise05MostDoesNotMatter() {
        TankNumbers x = Bench.withNumbers(9999);
        x.most(1);
        Bench.answers(x, 1, "fits", 0, 0, 1);
    }

    // ---- 6: most

    static void promise06From1To150() {
        Bench.ends(0, 1, 150, "most", 5);
        TankNumbers x = new TankNumbers();
        Bench.answers(x, 150, "most", 1);
        Bench.answers(x, 1, "most", 150);
        Bench.answers(x, 150, "most", 150);
    }

    static void promise06WhatItWas() {
        TankNumbers x = new TankNumbers();
        Bench.answers(x, 150, "most", 7);
        Bench.answers(x, BAD, "most", 0);
        Bench.answers(x, BAD, "most", 151);
        Bench.answers(x, 7, "most", 9);
        Bench.answers(x, 9, "most", 9);
    }

    static void promise06OddsGoUpToIt() {
        TankNumbers x = new TankNumbers();
        x.most(1);
        Bench.gives(x, 1, 1, "odds", 0, 0, 1, 1);
        Bench.gives(x, 0, 1, "odds", 0, 0, 1, 2);
        x.most(2);
        Bench.gives(x, 1, 2, "odds", 0, 0, 1, 2);
        Bench.gives(x, 0, 1, "odds", 0, 0, 1, 3);
    }

    // ---- 7: odds

    /** PLACES 0 and 1 of at most 4 things, by first 50 and step 10: 2 by 3, 2 by 9, 1 by 9. */
    private static TankNumbers twoOfFour() {
        TankNumbers x = Bench.withNumbers(50, 60);
        x.most(4);
        return x;
    }

    static void promise07Maker0To5() {
        Bench.ends(0, 0, 5, "odds", 0, 100, 4, 5);
        TankNumbers x = twoOfFour();
        Bench.gives(x, 2, 9, "odds", 0, 50, 10, 3);
        Bench.gives(x, 1, 4, "odds", 5, 50, 10, 3);
    }

    static void promise07First0To9999() {
        Bench.ends(1, 0, 9999, "odds", 0, 100, 4, 5);
        TankNumbers x = new TankNumbers();
        x.find(0, 0, NONE, NONE, 0);
        x.find(1, 9999, NONE, NONE, 0);
        x.most(2);
        Bench.gives(x, 2, 3, "odds", 0, 0, 1, 1);
        Bench.gives(x, 2, 3, "odds", 1, 9999, 1, 1);
    }

    static void promise07Step1To99() {
        Bench.ends(2, 1, 99, "odds", 0, 100, 4, 5);
        TankNumbers x = Bench.withNumbers(100, 199);
        x.most(3);
        Bench.gives(x, 3, 4, "odds", 0, 100, 99, 2);
        TankNumbers y = Bench.withNumbers(100, 101);
        y.most(3);
        Bench.gives(y, 3, 4, "odds", 0, 100, 1, 2);
    }

    static void promise07N0To200() {
        Bench.ends(3, 0, 200, "odds", 0, 100, 4, 5);
        Bench.gives(twoOfFour(), 0, 1, "odds", 0, 50, 10, 0);
        Bench.gives(twoOfFour(), 0, 1, "odds", 0, 50, 10, 200);
    }

    static void promise07AboveTheGreatestPlaceElse0() {
        TankNumbers x = twoOfFour();
        Bench.gives(x, 0, 1, "odds", 0, 50, 10, 1);
        Bench.gives(x, 2, 3, "odds", 0, 50, 10, 2);
    }

    static void promise07UpToMostElse0() {
        TankNumbers x = twoOfFour();
        Bench.gives(x, 1, 9, "odds", 0, 50, 10, 4);
        Bench.gives(x, 0, 1, "odds", 0, 50, 10, 5);
    }

    static void promise07WithoutNumbersAllAlike() {
        TankNumbers x = twoOfFour();
        Bench.gives(x, 0, 1, "odds", 1, 0, 1, 0);
        Bench.gives(x, 1, 4, "odds", 1, 0, 1, 1);
        Bench.gives(x, 1, 4, "odds", 1, 0, 1, 4);
        Bench.gives(x, 0, 1, "odds", 1, 0, 1, 5);
    }

    static void promise07TheGreatestPlaceIsJustBelowMost() {
        Bench.gives(Bench.withNumbers(149), 1, 1, "odds", 0, 0, 1, 150);
        Bench.gives(Bench.withNumbers(149), 0, 1, "odds", 0, 0, 1, 149);
        Bench.gives(Bench.withNumbers(9999), 1, 1, "odds", 0, 9850, 1, 150);
        Bench.answers(Bench.withNumbers(150), NO, "odds", 0, 0, 1, 150);
        Bench.answers(Bench.withNumbers(9999), NO, "odds", 0, 9849, 1, 150);
        Bench.gives(twoOfFour(), 1, 1, "odds", 0, 30, 10, 4);
        Bench.answers(twoOfFour(), NO, "odds", 0, 20, 10, 4);
    }

    static void promise07OneThingAlone() {
        TankNumbers x = Bench.withNumbers(0);
        x.most(1);
        Bench.gives(x, 1, 1, "odds", 0, 0, 1, 1);
        TankNumbers y = Bench.withNumbers(1);
        y.most(1);
        Bench.answers(y, NO, "odds", 0, 0, 1, 1);
    }

    static void promise07SixtyNumbers() {
        TankNumbers x = new TankNumbers();
        for (int i = 0; i < 60; i++) {
            x.find(0, i, NONE, NONE, 0);
        }
        x.most(61);
        Bench.gives(x, 0, 1, "odds", 0, 0, 1, 59);
        Bench.gives(x, 61, 62, "odds", 0, 0, 1, 60);
        Bench.gives(x, 1, 62, "odds", 0, 0, 1, 61);
        x.most(60);
        Bench.gives(x, 1, 1, "odds", 0, 0, 1, 60);
        x.most(59);
        Bench.answers(x, NO, "odds", 0, 0, 1, 60);
    }

    static void promise07NoThingsBelowTheGreatestPlace() {
        // PLACE 2 of at most 4: 1 by 3 and 1 by 4
        TankNumbers x = Bench.withNumbers(2);
        x.most(4);
        Bench.gives(x, 0, 1, "odds", 0, 0, 1, 2);
        Bench.gives(x, 4, 7, "odds", 0, 0, 1, 3);
        Bench.gives(x, 3, 7, "odds", 0, 0, 1, 4);
    }

    /** The number of sets of k of n. */
    private static BigInteger sets(int n, int k) {
        BigInteger all = BigInteger.ONE;
        for (int i = 0; i < k; i++) {
            all = all.multiply(BigInteger.valueOf(n - i)).divide(BigInteger.valueOf(i + 1));
        }
        return all;
    }

    /** ODDS from n up to a last one, of k NUMBERS, by sets alone. */
    private static BigInteger[] share(int k, int lowest, int from, int to) {
        BigInteger all = BigInteger.ONE;
        for (int n = lowest; n <= 150; n++) {
            all = all.multiply(sets(n, k)).divide(all.gcd(sets(n, k)));
        }
        BigInteger above = BigInteger.ZERO;
        BigInteger below = BigInteger.ZERO;
        for (int n = lowest; n <= 150; n++) {
            BigInteger weight = all.divide(sets(n, k));
            above = n >= from && n <= to ? above.add(weight) : above;
            below = below.add(weight);
        }
        BigInteger shared = above.gcd(below);
        return new BigInteger[] {above.divide(shared), below.divide(shared)};
    }

    /** So many PLACES from 0 on, and one more. */
    private static TankNumbers placesAnd(int places, int greatest) {
        TankNumbers x = new TankNumbers();
        for (int i = 0; i < places; i++) {
            x.find(0, i, NONE, NONE, 0);
        }
        x.find(0, greatest, NONE, NONE, 0);
        return x;
    }

    static void promise07UpTo150() {
        int[][] states = {{0, 0}, {0, 100}, {1, 1}, {1, 147}, {29, 29}, {29, 75}, {59, 59}, {59, 120}, {59, 148}};
        for (int[] state : states) {
            TankNumbers x = placesAnd(state[0], state[1]);
            int k = state[0] + 1;
            int lowest = state[1] + 1;
            for (int n : new int[] {lowest, lowest + 1, 149, 150}) {
                Bench.answers(x, 1, "odds", 0, 0, 1, n);
                Bench.isLong(x, 0, share(k, lowest, n, n)[0]);
                Bench.isLong(x, 1, share(k, lowest, n, n)[1]);
            }
            Bench.gives(x, 0, 1, "odds", 0, 0, 1, lowest - 1);
            Bench.gives(x, 0, 1, "odds", 0, 0, 1, 151);
        }
    }

    static void promise07NoWhereItDoesNotFit() {
        Bench.refused(Bench::some, NO, "odds", 0, 101, 4, 5);
        Bench.refused(Bench::some, NO, "odds", 0, 100, 3, 5);
        Bench.refused(Bench::some, NO, "odds", 0, 104, 4, 5);
    }

    static void promise07NoWhereTheGreatestPlaceIsMost() {
        // (112 less 32) by 2 is 40, which is MOST
        Bench.refused(Bench::some, NO, "odds", 0, 32, 2, 5);
        Bench.refused(Bench::some, NO, "odds", 0, 32, 2, 200);
        Bench.gives(Bench.some(), 1, 1, "odds", 0, 34, 2, 40);
    }

    static void promise07BadIsAheadOfNo() {
        Bench.refused(Bench::some, BAD, "odds", 0, 101, 4, 201);
        Bench.refused(Bench::some, BAD, "odds", 0, 101, 100, 5);
        Bench.refused(Bench::some, BAD, "odds", 5, 0, 1, -1);
    }

    // ---- 8: atLeast

    static void promise08Maker0To5() {
        Bench.ends(0, 0, 5, "atLeast", 0, 100, 4, 5);
        Bench.gives(twoOfFour(), 1, 3, "atLeast", 0, 50, 10, 3);
        Bench.gives(twoOfFour(), 1, 2, "atLeast", 5, 50, 10, 3);
    }

    static void promise08First0To9999() {
        Bench.ends(1, 0, 9999, "atLeast", 0, 100, 4, 5);
        Bench.gives(Bench.withNumbers(0), 1, 1, "atLeast", 0, 0, 1, 1);
        Bench.gives(Bench.withNumbers(9999), 1, 1, "atLeast", 0, 9999, 1, 1);
    }

    static void promise08Step1To99() {
        Bench.ends(2, 1, 99, "atLeast", 0, 100, 4, 5);
        TankNumbers x = Bench.withNumbers(100, 199);
        x.most(3);
        Bench.gives(x, 1, 4, "atLeast", 0, 100, 99, 3);
        TankNumbers y = Bench.withNumbers(100, 101);
        y.most(3);
        Bench.gives(y, 1, 4, "atLeast", 0, 100, 1, 3);
    }

    static void promise08X0To200() {
        Bench.ends(3, 0, 200, "atLeast", 0, 100, 4, 5);
        Bench.gives(twoOfFour(), 1, 1, "atLeast", 0, 50, 10, 0);
        Bench.gives(twoOfFour(), 0, 1, "atLeast", 0, 50, 10, 200);
    }

    static void promise08FromXOn() {
        TankNumbers x = twoOfFour();
        Bench.gives(x, 1, 1, "atLeast", 0, 50, 10, 2);
        Bench.gives(x, 1, 3, "atLeast", 0, 50, 10, 3);
        Bench.gives(x, 1, 9, "atLeast", 0, 50, 10, 4);
        Bench.gives(x, 0, 1, "atLeast", 0, 50, 10, 5);
    }

    static void promise08WithoutNumbers() {
        TankNumbers x = twoOfFour();
        Bench.gives(x, 1, 1, "atLeast", 1, 0, 1, 1);
        Bench.gives(x, 3, 4, "atLeast", 1, 0, 1, 2);
        Bench.gives(x, 1, 4, "atLeast", 1, 0, 1, 4);
        Bench.gives(x, 0, 1, "atLeast", 1, 0, 1, 5);
    }

    static void promise08At150() {
        Bench.gives(new TankNumbers(), 1, 150, "atLeast", 0, 0, 1, 150);
        Bench.gives(new TankNumbers(), 0, 1, "atLeast", 0, 0, 1, 151);
        Bench.gives(Bench.withNumbers(149), 1, 1, "atLeast", 0, 0, 1, 150);
        Bench.answers(Bench.withNumbers(150), NO, "atLeast", 0, 0, 1, 150);
    }

    static void promise08UpTo150() {
        int[][] states = {{0, 0}, {1, 10}, {29, 75}, {59, 59}, {59, 148}};
        for (int[] state : states) {
            TankNumbers x = placesAnd(state[0], state[1]);
            int k = state[0] + 1;
            int lowest = state[1] + 1;
            for (int n : new int[] {lowest + 1, (lowest + 151) / 2, 150}) {
                Bench.answers(x, 1, "atLeast", 0, 0, 1, n);
                Bench.isLong(x, 0, share(k, lowest, n, 150)[0]);
                Bench.isLong(x, 1, share(k, lowest, n, 150)[1]);
            }
            Bench.gives(x, 1, 1, "atLeast", 0, 0, 1, lowest);
            Bench.gives(x, 0, 1, "atLeast", 0, 0, 1, 151);
        }
    }

    static void promise08NoWhereItDoesNotFit() {
        Bench.refused(Bench::some, NO, "atLeast", 0, 101, 4, 5);
        Bench.refused(Bench::some, NO, "atLeast", 0, 104, 4, 0);
    }

    static void promise08NoWhereTheGreatestPlaceIsMost() {
        Bench.refused(Bench::some, NO, "atLeast", 0, 32, 2, 5);
        Bench.gives(Bench.some(), 1, 1, "atLeast", 0, 34, 2, 40);
    }

    static void promise08BadIsAheadOfNo() {
        Bench.refused(Bench::some, BAD, "atLeast", 0, 101, 4, 201);
        Bench.refused(Bench::some, BAD, "atLeast", 0, 32, 0, 5);
    }

    // ---- 9: span

    static void promise09Maker0To5() {
        Bench.ends(0, 0, 5, "span", 0, 100, 4, 1, 2, 0);
        Bench.answers(twoOfFour(), 2, "span", 0, 50, 10, 1, 2, 0);
        Bench.answers(twoOfFour(), 1, "span", 5, 50, 10, 1, 2, 0);
    }

    static void promise09First0To9999() {
        Bench.ends(1, 0, 9999, "span", 0, 100, 4, 1, 2, 0);
        Bench.answers(Bench.withNumbers(0), 1, "span", 0, 0, 1, 1, 2, 0);
        Bench.answers(Bench.withNumbers(9999), 1, "span", 0, 9999, 1, 1, 2, 0);
    }

    static void promise09Step1To99() {
        Bench.ends(2, 1, 99, "span", 0, 100, 4, 1, 2, 0);
        Bench.answers(Bench.withNumbers(9999), 102, "span", 0, 0, 99, 1, 2, 0);
        Bench.answers(Bench.withNumbers(99), 100, "span", 0, 0, 1, 1, 2, 0);
    }

    static void promise09AIsAbove0AndAtMostB() {
        Bench.ends(3, 1, 1000, "span", 0, 100, 4, 1, 1000, 0);
        Bench.bad("span", 0, 100, 4, 8, 7, 0);
        Bench.bad("span", 0, 100, 4, 2, 1, 0);
        Bench.bad("span", 0, 100, 4, 0, 0, 0);
        Bench.bad("span", 0, 100, 4, -1, -1, 0);
        Bench.bad("span", 0, 100, 4, Bench.LEAST, Bench.GREATEST, 1);
        Bench.answers(twoOfFour(), 2, "span", 0, 50, 10, 1, 1000, 1);
        Bench.answers(twoOfFour(), 4, "span", 0, 50, 10, 7, 7, 1);
    }

    static void promise09BIsAtMost1000() {
        Bench.ends(4, 1, 1000, "span", 0, 100, 4, 1, 1000, 0);
        Bench.bad("span", 0, 100, 4, 1001, 1001, 1);
        Bench.answers(twoOfFour(), 4, "span", 0, 50, 10, 1000, 1000, 1);
        Bench.answers(twoOfFour(), 4, "span", 0, 50, 10, 1, 1, 1);
    }

    static void promise09What0And1() {
        Bench.ends(5, 0, 1, "span", 0, 100, 4, 1, 2, 0);
        Bench.answers(twoOfFour(), 2, "span", 0, 50, 10, 8, 9, 0);
        Bench.answers(twoOfFour(), 3, "span", 0, 50, 10, 8, 9, 1);
    }

    static void promise09TogetherAByBAtLeast() {
        TankNumbers x = twoOfFour();
        Bench.answers(x, 2, "span", 0, 50, 10, 2, 3, 1);
        Bench.answers(x, 2, "span", 0, 50, 10, 666, 1000, 1);
        Bench.answers(x, 3, "span", 0, 50, 10, 667, 1000, 1);
        Bench.answers(x, 3, "span", 0, 50, 10, 888, 1000, 1);
        Bench.answers(x, 4, "span", 0, 50, 10, 889, 1000, 1);
        Bench.answers(x, 4, "span", 0, 50, 10, 999, 1000, 1);
    }

    static void promise09WholeSurenessTakesAllUpToMost() {
        Bench.answers(Bench.withNumbers(7), 8, "span", 0, 0, 1, 1, 1, 0);
        Bench.answers(Bench.withNumbers(7), 150, "span", 0, 0, 1, 1, 1, 1);
        Bench.answers(Bench.withNumbers(149), 150, "span", 0, 0, 1, 1, 1, 0);
        Bench.answers(Bench.withNumbers(149), 150, "span", 0, 0, 1, 1, 1000, 1);
    }

    static void promise09OfLikeOnesTheLeastX() {
        TankNumbers x = new TankNumbers();
        x.most(10);
        Bench.answers(x, 1, "span", 0, 0, 1, 1, 10, 0);
        Bench.answers(x, 1, "span", 0, 0, 1, 1, 10, 1);
        Bench.answers(x, 1, "span", 0, 0, 1, 101, 1000, 0);
        Bench.answers(x, 2, "span", 0, 0, 1, 101, 1000, 1);
        Bench.answers(x, 1, "span", 0, 0, 1, 1, 1, 0);
        Bench.answers(x, 10, "span", 0, 0, 1, 1, 1, 1);
    }

    static void promise09NoWhereItDoesNotFit() {
        Bench.refused(Bench::some, NO, "span", 0, 101, 4, 1, 2, 0);
        Bench.refused(Bench::some, NO, "span", 0, 104, 4, 1, 2, 1);
    }

    static void promise09NoWhereTheGreatestPlaceIsMost() {
        Bench.refused(Bench::some, NO, "span", 0, 32, 2, 1, 2, 0);
        Bench.answers(Bench.some(), 40, "span", 0, 34, 2, 1, 2, 0);
        Bench.answers(Bench.some(), 40, "span", 0, 34, 2, 1, 2, 1);
    }

    static void promise09BadIsAheadOfNo() {
        Bench.refused(Bench::some, BAD, "span", 0, 101, 4, 2, 1, 0);
        Bench.refused(Bench::some, BAD, "span", 0, 101, 4, 1, 2, 2);
    }

    static void promise09TheFractionStays() {
        TankNumbers x = twoOfFour();
        x.odds(0, 50, 10, 3);
        x.span(0, 50, 10, 1, 2, 1);
        Bench.isFraction(x, "behind span", 2, 9);
    }

    // ---- 10: told

    static void promise10Maker0To5() {
        Bench.ends(0, 0, 5, "told", 0, 100, 4, 0);
        Bench.answers(twoOfFour(), 2, "told", 0, 50, 10, 0);
        Bench.answers(twoOfFour(), 1, "told", 5, 50, 10, 0);
    }

    static void promise10First0To9999() {
        Bench.ends(1, 0, 9999, "told", 0, 100, 4, 0);
        Bench.answers(Bench.withNumbers(0), 1, "told", 0, 0, 1, 0);
        Bench.answers(Bench.withNumbers(9999), 1, "told", 0, 9999, 1, 0);
    }

    static void promise10Step1To99() {
        Bench.ends(2, 1, 99, "told", 0, 100, 4, 0);
        Bench.answers(Bench.withNumbers(9999), 102, "told", 0, 0, 99, 0);
        Bench.answers(Bench.withNumbers(99), 100, "told", 0, 0, 1, 0);
    }

    static void promise10What0And1() {
        Bench.ends(3, 0, 1, "told", 0, 100, 4, 0);
        Bench.answers(Bench.withNumbers(4), 5, "told", 0, 0, 1, 0);
        Bench.answers(Bench.withNumbers(4), 9, "told", 0, 0, 1, 1);
    }

    static void promise10LikeliestOfLikeOnesTheLeast() {
        Bench.answers(new TankNumbers(), 1, "told", 0, 0, 1, 0);
        Bench.answers(Bench.some(), 1, "told", 2, 9999, 99, 0);
    }

    static void promise10ALittleMoreIsCut() {
        // 5 and 5 by 2 less 1: 6 and a half
        Bench.answers(Bench.withNumbers(4, 0), 6, "told", 0, 0, 1, 1);
        // 5 and 5 by 3 less 1: 5 and two thirds
        Bench.answers(Bench.withNumbers(4, 0, 2), 5, "told", 0, 0, 1, 1);
        Bench.answers(Bench.withNumbers(0, 1, 2), 3, "told", 0, 0, 1, 1);
        Bench.answers(Bench.withNumbers(0), 1, "told", 0, 0, 1, 1);
    }

    static void promise10ALittleMoreMayBeBeyondMost() {
        Bench.answers(Bench.withNumbers(149), 299, "told", 0, 0, 1, 1);
        Bench.answers(Bench.withNumbers(149), 150, "told", 0, 0, 1, 0);
    }

    static void promise10ALittleMoreWithoutNumbersIs0() {
        Bench.answers(new TankNumbers(), 0, "told", 0, 0, 1, 1);
        Bench.answers(Bench.some(), 0, "told", 4, 9999, 99, 1);
    }

    static void promise10NoWhereItDoesNotFit() {
        Bench.refused(Bench::some, NO, "told", 0, 101, 4, 0);
        Bench.refused(Bench::some, NO, "told", 0, 104, 4, 1);
    }

    static void promise10NoWhereTheGreatestPlaceIsMost() {
        Bench.refused(Bench::some, NO, "told", 0, 32, 2, 1);
        Bench.answers(Bench.some(), 40, "told", 0, 34, 2, 0);
        // 40 and 40 by 3 less 1
        Bench.answers(Bench.some(), 52, "told", 0, 34, 2, 1);
    }

    static void promise10BadIsAheadOfNo() {
        Bench.refused(Bench::some, BAD, "told", 0, 101, 4, 2);
        Bench.refused(Bench::some, BAD, "told", 0, 101, 0, 0);
    }

    // ---- 11: far

    static void promise11NothingThereYet() {
        Bench.refused(TankNumbers::new, BAD, "far", 0, 0, 1);
    }

    static void promise11ItsNumberIsOneThatIsThere() {
        Bench.ends(0, 0, 59, "far", 0, 100, 4);
        Bench.refused(Bench::some, BAD, "far", 7, 100, 4);
        Bench.answers(Bench.some(), 0, "far", 0, 100, 4);
        Bench.answers(Bench.some(), 0, "far", 6, 9999, 4);
        TankNumbers x = Bench.full();
        Bench.answers(x, 0, "far", 58, 40, 60);
        Bench.answers(x, BAD, "far", 60, 40, 60);
    }

    static void promise11First0To9999() {
        Bench.ends(1, 0, 9999, "far", 0, 100, 4);
        Bench.answers(Bench.withNumbers(0), 0, "far", 0, 0, 1);
        Bench.answers(Bench.withNumbers(9999), 0, "far", 0, 9999, 1);
    }

    static void promise11Step1To99() {
        Bench.ends(2, 1, 99, "far", 0, 100, 4);
        Bench.answers(Bench.withNumbers(0, 99), 0, "far", 0, 0, 99);
        Bench.answers(Bench.withNumbers(0, 99), 0, "far", 0, 0, 1);
    }

    static void promise11NoWhereItIsDoubted() {
        Bench.refused(Bench::some, NO, "far", 3, 101, 1);
        Bench.refused(Bench::full, NO, "far", 59, 50, 60);
    }

    static void promise11NoWhereItDoesNotFitItself() {
        Bench.refused(() -> Bench.withNumbers(0, 2, 3), NO, "far", 2, 0, 2);
        Bench.refused(() -> Bench.withNumbers(5, 6, 1), NO, "far", 2, 5, 1);
        Bench.refused(() -> Bench.withNumbers(5), NO, "far", 0, 6, 1);
    }

    static void promise11NoWhereAnotherDoesNotFit() {
        Bench.refused(() -> Bench.withNumbers(0, 2, 3), NO, "far", 0, 0, 2);
        TankNumbers x = Bench.withNumbers(0, 2, 3);
        x.doubt(2, true);
        Bench.answers(x, 0, "far", 0, 0, 2);
    }

    static void promise11NoWhereTheGreatestPlaceWithoutItIsMost() {
        TankNumbers x = Bench.withNumbers(0, 3, 4);
        x.most(4);
        Bench.answers(x, NO, "far", 0, 0, 1);
        Bench.answers(x, NO, "far", 1, 0, 1);
        x.most(5);
        Bench.answers(x, 0, "far", 0, 0, 1);
        Bench.answers(x, 0, "far", 1, 0, 1);
        Bench.refused(() -> Bench.withNumbers(0, 150), NO, "far", 0, 0, 1);
        Bench.answers(Bench.withNumbers(0, 149), 0, "far", 0, 0, 1);
    }

    static void promise11ItsOwnPlaceMayBeBeyondMost() {
        TankNumbers x = Bench.withNumbers(0, 3, 4);
        x.most(4);
        Bench.answers(x, 1, "far", 2, 0, 1);
        Bench.answers(Bench.withNumbers(0, 9999), 1, "far", 1, 0, 1);
    }

    static void promise11AboveYOfTheSpanOf99By100() {
        // PLACES 0 and 1, MOST 99: N from 2 to 50 have 99 by 100 and not a bit more
        TankNumbers x = Bench.withNumbers(0, 1, 49, 50);
        x.most(99);
        x.doubt(3, true);
        Bench.answers(x, 0, "far", 2, 0, 1);
        x.doubt(2, true);
        x.doubt(3, false);
        Bench.answers(x, 1, "far", 3, 0, 1);
        x.most(100);
        Bench.answers(x, 0, "far", 3, 0, 1);
    }

    static void promise11WithoutOtherNumbersNo() {
        TankNumbers x = Bench.withNumbers(9999);
        x.most(1);
        Bench.answers(x, 0, "far", 0, 0, 1);
        x.find(1, 0, NONE, NONE, 0);
        Bench.answers(x, 0, "far", 0, 0, 1);
        x.find(0, 0, NONE, NONE, 0);
        Bench.answers(x, 1, "far", 0, 0, 1);
        x.doubt(2, true);
        Bench.answers(x, 0, "far", 0, 0, 1);
    }

    static void promise11ATwinHoldsItsPlace() {
        TankNumbers x = Bench.withNumbers(0, 1, 100);
        Bench.answers(x, 1, "far", 2, 0, 1);
        x.find(0, 100, NONE, NONE, 0);
        Bench.answers(x, 0, "far", 2, 0, 1);
        x.most(100);
        Bench.answers(x, NO, "far", 2, 0, 1);
        x.doubt(3, true);
        Bench.answers(x, 1, "far", 2, 0, 1);
    }

    static void promise11ItIsNotDoubtedByTheAsking() {
        TankNumbers x = Bench.withNumbers(0, 1, 100);
        long before = x.digest();
        Bench.answers(x, 1, "far", 2, 0, 1);
        Bench.answers(x, 0, "count", 1);
        Bench.due("digest", x.digest(), before);
        Bench.answers(x, NO, "doubt", 2, 0);
    }

    static void promise11BadIsAheadOfNo() {
        Bench.refused(Bench::some, BAD, "far", 3, 10000, 1);
        Bench.refused(Bench::some, BAD, "far", 3, 101, 0);
        Bench.refused(Bench::some, BAD, "far", 0, 101, 100);
    }

    public static void main(String[] args) {
        Bench.runAll(EdgesOfFindsTest.class, 1, 11);
    }
}
