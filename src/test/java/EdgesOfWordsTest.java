import java.math.BigInteger;

/** Promises 12 to 22 (moulds; words, runs, gaps): each sentence that names an edge, with a test of its own. */
public final class EdgesOfWordsTest {
    private static final int NONE = Bench.NONE, BAD = Bench.BAD, NO = Bench.NO, FULL = Bench.FULL;
    /** How many rows of letters there are, by their length. */
    private static final int[] ROWS = {1, 6, 36, 216, 1296};

    private EdgesOfWordsTest() {
    }

    // ---- 12: moulds

    static void promise12Maker0To5() {
        Bench.ends(0, 0, 5, "moulds", 0, 0);
        Bench.answers(Bench.some(), 3, "moulds", 0, 0);
        Bench.answers(Bench.some(), 1, "moulds", 5, 0);
        Bench.answers(Bench.some(), 0, "moulds", 4, 0);
    }

    static void promise12What0And1() {
        Bench.ends(1, 0, 1, "moulds", 0, 0);
        Bench.answers(Bench.some(), 3, "moulds", 0, 0);
        Bench.answers(Bench.some(), 2, "moulds", 0, 1);
    }

    static void promise12NothingThereYet() {
        Bench.answers(new TankNumbers(), 0, "moulds", 0, 0);
        Bench.answers(new TankNumbers(), 0, "moulds", 0, 1);
    }

    static void promise12AFindWithoutAMould() {
        Bench.answers(Bench.withMoulds(NONE), 0, "moulds", 0, 0);
        Bench.answers(Bench.withMoulds(NONE), 0, "moulds", 0, 1);
        Bench.answers(Bench.withMoulds(0, NONE, 0), 2, "moulds", 0, 0);
        Bench.answers(Bench.withMoulds(0, NONE, 0), 1, "moulds", 0, 1);
    }

    static void promise12AllTwentyMetThrice() {
        TankNumbers x = new TankNumbers();
        for (int i = 0; i < 60; i++) {
            x.find(5, 0, NONE, i % 20, 0);
        }
        Bench.answers(x, 60, "moulds", 5, 0);
        Bench.answers(x, 20, "moulds", 5, 1);
    }

    static void promise12LikeNumbersAreStillTwoFinds() {
        Bench.answers(Bench.withMoulds(4, 4, 5), 3, "moulds", 0, 0);
        Bench.answers(Bench.withMoulds(4, 4, 5), 1, "numbers", 0, 0);
    }

    // ---- 13: thereAre

    static void promise13Maker0To5() {
        Bench.ends(0, 0, 5, "thereAre", 0, 3);
        TankNumbers x = Bench.withMoulds(0, 1);
        Bench.gives(x, 0, 1, "thereAre", 0, 1);
        Bench.gives(x, 1, 20, "thereAre", 5, 1);
    }

    static void promise13N0To30() {
        Bench.ends(1, 0, 30, "thereAre", 0, 3);
        Bench.gives(Bench.some(), 0, 1, "thereAre", 0, 0);
        Bench.gives(Bench.some(), 0, 1, "thereAre", 0, 30);
    }

    static void promise13NoneMetFrom1On() {
        TankNumbers x = Bench.withMoulds(NONE);
        Bench.gives(x, 0, 1, "thereAre", 0, 0);
        Bench.gives(x, 1, 20, "thereAre", 0, 1);
        Bench.gives(x, 1, 20, "thereAre", 0, 20);
        Bench.gives(x, 0, 1, "thereAre", 0, 21);
    }

    static void promise13OneMetTellsNothing() {
        TankNumbers x = Bench.withMoulds(19);
        Bench.gives(x, 0, 1, "thereAre", 0, 0);
        Bench.gives(x, 1, 20, "thereAre", 0, 1);
        Bench.gives(x, 1, 20, "thereAre", 0, 20);
        Bench.gives(x, 0, 1, "thereAre", 0, 21);
    }

    static void promise13FromDOn() {
        // (n less 1) by n for 2 .. 20: together 254554945 by 15519504
        TankNumbers x = Bench.withMoulds(0, 19);
        Bench.gives(x, 0, 1, "thereAre", 0, 1);
        Bench.gives(x, 7759752, 254554945, "thereAre", 0, 2);
    }

    static void promise13UpTo20() {
        TankNumbers x = Bench.withMoulds(0, 19);
        Bench.answers(x, 1, "thereAre", 0, 20);
        Bench.answers(x, 73717644, "limb", 0, 0);
        Bench.answers(x, NONE, "limb", 0, 1);
        Bench.answers(x, 199032901, "limb", 1, 0);
        Bench.answers(x, 1, "limb", 1, 1);
        Bench.answers(x, NONE, "limb", 1, 2);
        Bench.gives(x, 0, 1, "thereAre", 0, 21);
    }

    static void promise13AllTwentyMet() {
        TankNumbers x = new TankNumbers();
        for (int i = 0; i < 60; i++) {
            x.find(0, 0, NONE, i % 20, 0);
        }
        Bench.gives(x, 0, 1, "thereAre", 0, 19);
        Bench.gives(x, 1, 1, "thereAre", 0, 20);
        Bench.gives(x, 0, 1, "thereAre", 0, 21);
    }

    static void promise13SixtyOfOneMould() {
        TankNumbers x = new TankNumbers();
        for (int i = 0; i < 60; i++) {
            x.find(0, 0, NONE, 7, 0);
        }
        BigInteger all = BigInteger.valueOf(232792560).pow(59);
        BigInteger sum = BigInteger.ZERO;
        for (int n = 1; n <= 20; n++) {
            sum = sum.add(BigInteger.valueOf(232792560 / n).pow(59));
        }
        BigInteger shared = all.gcd(sum);
        Bench.answers(x, 1, "thereAre", 0, 1);
        Bench.isLong(x, 0, all.divide(shared));
        Bench.isLong(x, 1, sum.divide(shared));
        Bench.gives(x, 0, 1, "thereAre", 0, 0);
    }

    // ---- 14: can

    static void promise14Moulds1To20() {
        Bench.ends(0, 1, 20, "can", 3, 2, 6, 18, 10);
        Bench.answers(new TankNumbers(), 1, "can", 1, 1, 1, 1, 1);
        Bench.answers(new TankNumbers(), 20, "can", 20, 1, 1, 1, 1);
    }

    static void promise14Day1To9() {
        Bench.ends(1, 1, 9, "can", 3, 2, 6, 18, 10);
        Bench.answers(new TankNumbers(), 9, "can", 1, 9, 1, 1, 1);
    }

    static void promise14Days1To7() {
        Bench.ends(2, 1, 7, "can", 3, 2, 6, 18, 10);
        Bench.answers(new TankNumbers(), 7, "can", 1, 1, 7, 1, 1);
    }

    static void promise14Wheels1To99() {
        Bench.ends(3, 1, 99, "can", 3, 2, 6, 18, 10);
        Bench.answers(new TankNumbers(), 99, "can", 1, 1, 1, 1, 99);
        Bench.answers(new TankNumbers(), 1, "can", 1, 1, 1, 99, 99);
        Bench.answers(new TankNumbers(), 0, "can", 1, 1, 1, 99, 98);
    }

    static void promise14Weeks0To99() {
        Bench.ends(4, 0, 99, "can", 3, 2, 6, 18, 10);
        Bench.answers(new TankNumbers(), 0, "can", 20, 9, 7, 1, 0);
        Bench.answers(new TankNumbers(), 124740, "can", 20, 9, 7, 1, 99);
    }

    static void promise14WholeOnes() {
        Bench.answers(new TankNumbers(), 2, "can", 1, 1, 1, 2, 5);
        Bench.answers(new TankNumbers(), 0, "can", 1, 1, 1, 2, 1);
        // 20 by 3 in all, not 2 by 3 and 5 weeks of none
        Bench.answers(new TankNumbers(), 6, "can", 2, 1, 1, 3, 10);
    }

    static void promise14AllArgumentsBeyondAtOnce() {
        Bench.bad("can", 0, 0, 0, 0, -1);
        Bench.bad("can", Bench.GREATEST, Bench.GREATEST, Bench.GREATEST, Bench.GREATEST, Bench.GREATEST);
    }

    // ---- 15: word

    static void promise15Length1To4() {
        Bench.ends(0, 1, 4, "word", 1, 0, 0, 9);
        TankNumbers x = new TankNumbers();
        for (int length = 1; length <= 4; length++) {
            Bench.answers(x, length - 1, "word", length, 0, 0, 9999);
        }
    }

    static void promise15LettersByTheLength() {
        for (int length = 1; length <= 4; length++) {
            Bench.ends(1, 0, ROWS[length] - 1, "word", length, 0, 0, 9);
            TankNumbers x = new TankNumbers();
            Bench.answers(x, 0, "word", length, 0, 0, 9999);
            Bench.answers(x, 1, "word", length, ROWS[length] - 1, 0, 9999);
        }
    }

    static void promise15TheFirstLetterIsTheHighestDigit() {
        TankNumbers x = new TankNumbers();
        x.word(4, 5 * 216 + 4 * 36 + 3 * 6 + 2, 1234, 1234);
        int[] due = {1023 - 30, 1023 - 30, 16, 8, 4, 2};
        for (int letter = 0; letter <= 5; letter++) {
            Bench.answers(x, due[letter], "may", letter);
        }
    }

    static void promise15LowFrom0To9999() {
        Bench.ends(2, 0, 9999, "word", 1, 0, 0, 9999);
        Bench.answers(new TankNumbers(), 0, "word", 1, 0, 0, 9999);
        Bench.answers(new TankNumbers(), 0, "word", 1, 0, 9999, 9999);
    }

    static void promise15HighFrom0To9999() {
        Bench.ends(3, 0, 9999, "word", 1, 0, 0, 9999);
        Bench.answers(new TankNumbers(), 0, "word", 1, 0, 0, 0);
    }

    static void promise15LowIsNotAboveHigh() {
        Bench.bad("word", 1, 0, 6, 5);
        Bench.bad("word", 1, 0, 9999, 0);
        Bench.answers(new TankNumbers(), 0, "word", 1, 0, 5, 5);
    }

    static void promise15ItsNumberIs0To11AsTheyCome() {
        TankNumbers x = new TankNumbers();
        for (int i = 0; i < 12; i++) {
            Bench.answers(x, i, "word", 1 + i % 4, i % 6, 0, 9999);
            Bench.answers(x, i + 1, "count", 2);
        }
    }

    static void promise15The12thHasRoomThe13thIsFull() {
        TankNumbers x = new TankNumbers();
        for (int i = 0; i < 11; i++) {
            x.word(1, 0, 0, 9);
        }
        Bench.answers(x, 15120 * 10, "keys");
        Bench.answers(x, 11, "word", 1, 0, 4, 4);
        Bench.answers(x, 15120, "keys");
        Bench.answers(x, FULL, "word", 1, 1, 5, 5);
        Bench.answers(x, 15120, "keys");
        Bench.answers(x, 12, "count", 2);
    }

    static void promise15FullChangesNothing() {
        Bench.refused(Bench::full, FULL, "word", 1, 0, 3, 3);
        Bench.refused(Bench::full, FULL, "word", 4, 1295, 9999, 9999);
    }

    static void promise15BadIsAheadOfFull() {
        Bench.refused(Bench::full, BAD, "word", 1, 6, 3, 3);
        Bench.refused(Bench::full, BAD, "word", 1, 0, 3, 10000);
        Bench.refused(Bench::full, BAD, "word", 5, 0, 3, 3);
    }

    // ---- 16: wordless

    static void promise16NoneToGo() {
        TankNumbers x = new TankNumbers();
        long before = x.digest();
        Bench.answers(x, 0, "wordless");
        Bench.due("digest", x.digest(), before);
    }

    static void promise16AllTwelveGo() {
        TankNumbers x = Bench.full();
        Bench.answers(x, 12, "wordless");
        Bench.answers(x, 0, "count", 2);
        Bench.answers(x, 151200, "keys");
        Bench.answers(x, 0, "wordless");
    }

    static void promise16RoomForTwelveAgain() {
        TankNumbers x = Bench.full();
        x.wordless();
        for (int i = 0; i < 12; i++) {
            Bench.answers(x, i, "word", 1, 0, 2, 2);
        }
        Bench.answers(x, FULL, "word", 1, 0, 2, 2);
        Bench.answers(x, 15120, "keys");
        Bench.answers(x, 4, "may", 0);
    }

    static void promise16NothingElseGoes() {
        TankNumbers x = Bench.full();
        x.wordless();
        Bench.answers(x, 60, "count", 0);
        Bench.answers(x, 2, "count", 1);
        Bench.answers(x, 20, "count", 3);
        Bench.answers(x, 6, "count", 4);
        Bench.answers(x, 1, "sign", 0);
    }

    static void promise16TheLettersAreFreeAgain() {
        TankNumbers x = new TankNumbers();
        x.word(1, 0, 5, 5);
        x.word(1, 1, 5, 5);
        Bench.answers(x, 0, "may", 0);
        Bench.answers(x, NONE, "reads", 1, 0, 0);
        x.wordless();
        Bench.answers(x, 1023, "may", 0);
        Bench.answers(x, 0, "reads", 1, 0, 0);
        Bench.answers(x, 9, "reads", 1, 0, 1);
    }

    // ---- 17: keys

    private static TankNumbers withWord(int length, int letters, int low, int high) {
        TankNumbers x = new TankNumbers();
        x.word(length, letters, low, high);
        return x;
    }

    static void promise17WithoutWords() {
        Bench.answers(new TankNumbers(), 10 * 9 * 8 * 7 * 6 * 5, "keys");
    }

    static void promise17LowAndHighAreWithin() {
        Bench.answers(withWord(1, 0, 0, 9), 151200, "keys");
        Bench.answers(withWord(1, 0, 1, 9), 9 * 15120, "keys");
        Bench.answers(withWord(1, 0, 0, 8), 9 * 15120, "keys");
        Bench.answers(withWord(1, 0, 0, 0), 15120, "keys");
        Bench.answers(withWord(1, 0, 9, 9), 15120, "keys");
        Bench.answers(withWord(1, 0, 9, 9999), 15120, "keys");
    }

    static void promise17ANumberBeyondItsLength() {
        Bench.answers(withWord(1, 0, 10, 9999), 0, "keys");
        Bench.answers(withWord(3, 8, 1000, 9999), 0, "keys");
        Bench.answers(withWord(4, 0, 9999, 9999), 15120, "keys");
    }

    static void promise17AFirstFigure0MayBe() {
        Bench.answers(withWord(2, 1, 0, 9), 9 * 1680, "keys");
        Bench.answers(withWord(2, 1, 0, 1), 1680, "keys");
        Bench.answers(withWord(4, 0, 0, 0), 15120, "keys");
    }

    static void promise17UnlikeLettersUnlikeFigures() {
        Bench.answers(withWord(2, 1, 0, 0), 0, "keys");
        Bench.answers(withWord(2, 1, 99, 9999), 0, "keys");
        Bench.answers(withWord(2, 1, 98, 9999), 1680, "keys");
        Bench.answers(withWord(2, 1, 0, 99), 151200, "keys");
    }

    static void promise17LikeLettersLikeFigures() {
        Bench.answers(withWord(2, 7, 10, 10), 0, "keys");
        Bench.answers(withWord(2, 7, 10, 11), 15120, "keys");
        Bench.answers(withWord(2, 7, 0, 99), 151200, "keys");
    }

    static void promise17AllWordsHold() {
        TankNumbers x = withWord(1, 0, 0, 4);
        x.word(1, 0, 4, 9);
        Bench.answers(x, 15120, "keys");
        x.word(1, 0, 5, 9);
        Bench.answers(x, 0, "keys");
    }

    static void promise17OneKeyAlone() {
        TankNumbers x = new TankNumbers();
        for (int letter = 0; letter <= 5; letter++) {
            x.word(1, letter, 9 - letter, 9 - letter);
        }
        Bench.answers(x, 1, "keys");
        x.word(4, 51, 9876, 9876);
        Bench.answers(x, 1, "keys");
        x.word(4, 51, 9875, 9875);
        Bench.answers(x, 0, "keys");
    }

    static void promise17WordsThatHoldByAnyFigures() {
        TankNumbers x = withWord(4, 51, 0, 9999);
        x.word(2, 29, 0, 99);
        Bench.answers(x, 151200, "keys");
        x.word(1, 5, 9, 9);
        Bench.answers(x, 15120, "keys");
        x.word(4, 51, 124, 9999);
        Bench.answers(x, 15120 - 5, "keys");
    }

    static void promise17AllTwelveAreHeld() {
        TankNumbers x = new TankNumbers();
        for (int i = 0; i < 11; i++) {
            x.word(4, 51, i, 9999 - i);
        }
        Bench.answers(x, 151200, "keys");
        x.word(4, 5 * 216 + 4 * 36 + 3 * 6 + 2, 9876, 9876);
        Bench.answers(x, 6 * 5, "keys");
    }

    static void promise17AcrossAFirstFigure() {
        TankNumbers x = withWord(2, 1, 19, 20);
        Bench.answers(x, 2 * 1680, "keys");
        Bench.answers(x, 2 | 4, "may", 0);
        Bench.answers(x, 1 | 512, "may", 1);
        Bench.answers(x, 19, "reads", 2, 1, 0);
        Bench.answers(x, 20, "reads", 2, 1, 1);
    }

    static void promise17AskedAgain() {
        TankNumbers x = withWord(1, 0, 0, 4);
        Bench.answers(x, 5 * 15120, "keys");
        Bench.answers(x, 5 * 15120, "keys");
        x.reads(4, 1295, 1);
        Bench.answers(x, 5 * 15120, "keys");
    }

    // ---- 18: may

    static void promise18Letter0To5() {
        Bench.ends(0, 0, 5, "may", 0);
        TankNumbers x = withWord(2, 5, 9, 9);
        Bench.answers(x, 1, "may", 0);
        Bench.answers(x, 512, "may", 5);
    }

    static void promise18WithoutWordsAll() {
        for (int letter = 0; letter <= 5; letter++) {
            Bench.answers(new TankNumbers(), 1023, "may", letter);
        }
    }

    static void promise18Figures0To9AsBits() {
        for (int figure = 0; figure <= 9; figure++) {
            TankNumbers x = withWord(1, 3, figure, figure);
            Bench.answers(x, 1 << figure, "may", 3);
            Bench.answers(x, 1023 - (1 << figure), "may", 4);
        }
    }

    static void promise18LettersBehindAPlaceThatDecides() {
        TankNumbers x = withWord(2, 1, 50, 99);
        Bench.answers(x, 5 * 15120, "keys");
        Bench.answers(x, 992, "may", 0);
        Bench.answers(x, 1023, "may", 1);
        Bench.answers(x, 1023, "may", 5);
        x.word(1, 5, 9, 9);
        Bench.answers(x, 480, "may", 0);
        Bench.answers(x, 511, "may", 1);
        Bench.answers(x, 511, "may", 3);
        Bench.answers(x, 512, "may", 5);
    }

    static void promise18OneKeyAlone() {
        TankNumbers x = new TankNumbers();
        for (int letter = 0; letter <= 5; letter++) {
            x.word(1, letter, 2 + letter, 2 + letter);
        }
        for (int letter = 0; letter <= 5; letter++) {
            Bench.answers(x, 4 << letter, "may", letter);
        }
    }

    static void promise18WithoutKeysNone() {
        TankNumbers x = withWord(1, 0, 10, 10);
        for (int letter = 0; letter <= 5; letter++) {
            Bench.answers(x, 0, "may", letter);
        }
    }

    static void promise18FewerWithEachWord() {
        TankNumbers x = new TankNumbers();
        Bench.answers(x, 1023, "may", 0);
        x.word(1, 0, 3, 4);
        Bench.answers(x, 8 + 16, "may", 0);
        x.word(1, 1, 4, 4);
        Bench.answers(x, 8, "may", 0);
        x.word(1, 2, 3, 3);
        Bench.answers(x, 0, "may", 0);
    }

    static void promise18BadWithoutKeysToo() {
        Bench.refused(() -> withWord(1, 0, 10, 10), BAD, "may", 6);
        Bench.refused(() -> withWord(1, 0, 10, 10), BAD, "may", -1);
    }

    // ---- 19: reads

    static void promise19Length1To4() {
        Bench.ends(0, 1, 4, "reads", 1, 0, 0);
        int[] greatest = {0, 9, 98, 987, 9876};
        int[] rows = {0, 0, 1, 8, 51};
        for (int length = 1; length <= 4; length++) {
            Bench.answers(new TankNumbers(), greatest[length], "reads", length, rows[length], 1);
        }
    }

    static void promise19LettersByTheLength() {
        int[] greatest = {0, 9, 99, 999, 9999};
        for (int length = 1; length <= 4; length++) {
            Bench.ends(1, 0, ROWS[length] - 1, "reads", length, 0, 0);
            TankNumbers x = withWord(1, 0, 0, 8);
            Bench.answers(x, greatest[length] / 9 * 8, "reads", length, 0, 1);
            Bench.answers(x, greatest[length], "reads", length, ROWS[length] - 1, 1);
        }
    }

    static void promise19What0And1() {
        Bench.ends(2, 0, 1, "reads", 1, 0, 0);
        Bench.answers(withWord(1, 0, 3, 6), 3, "reads", 1, 0, 0);
        Bench.answers(withWord(1, 0, 3, 6), 6, "reads", 1, 0, 1);
    }

    static void promise19AFirstFigure0MayBe() {
        Bench.answers(new TankNumbers(), 123, "reads", 4, 51, 0);
        Bench.answers(new TankNumbers(), 0, "reads", 4, 1295, 0);
        Bench.answers(new TankNumbers(), 1, "reads", 2, 1, 0);
    }

    static void promise19LikeLettersLikeFigures() {
        Bench.answers(new TankNumbers(), 9999, "reads", 4, 0, 1);
        // letters 0 1 1 0
        Bench.answers(new TankNumbers(), 9889, "reads", 4, 42, 1);
        Bench.answers(new TankNumbers(), 110, "reads", 4, 42, 0);
    }

    static void promise19AWordsLettersTurnedAbout() {
        TankNumbers x = withWord(2, 6, 10, 98);
        Bench.answers(x, 98, "reads", 2, 6, 1);
        Bench.answers(x, 98, "reads", 2, 1, 1);
        Bench.answers(x, 10, "reads", 2, 6, 0);
        Bench.answers(x, 1, "reads", 2, 1, 0);
    }

    static void promise19ARowWithoutLettersOfWords() {
        TankNumbers x = withWord(2, 29, 98, 98);
        Bench.answers(x, 7654, "reads", 4, 51, 1);
        Bench.answers(x, 123, "reads", 4, 51, 0);
        x.word(2, 29, 98, 98);
        x.word(2, 1, 0, 1);
        Bench.answers(x, 1, "reads", 2, 1, 1);
        Bench.answers(x, 7654 / 100, "reads", 2, 15, 1);
    }

    static void promise19WithoutKeysNone() {
        TankNumbers x = withWord(1, 0, 10, 10);
        Bench.answers(x, NONE, "reads", 1, 0, 0);
        Bench.answers(x, NONE, "reads", 4, 1295, 1);
    }

    static void promise19BadIsAheadOfNone() {
        Bench.refused(() -> withWord(1, 0, 10, 10), BAD, "reads", 1, 6, 0);
        Bench.refused(() -> withWord(1, 0, 10, 10), BAD, "reads", 1, 0, 2);
        Bench.refused(() -> withWord(1, 0, 10, 10), BAD, "reads", 0, 0, 0);
    }

    static void promise19LettersOfWordsHoldBackOthers() {
        TankNumbers x = withWord(2, 1, 98, 98);
        Bench.answers(x, 76, "reads", 2, 15, 1);
        Bench.answers(x, 1, "reads", 2, 15, 0);
        Bench.answers(x, 987, "reads", 3, 8, 1);
        Bench.answers(x, 980, "reads", 3, 8, 0);
    }

    // ---- 20: runs

    private static TankNumbers dated(int... weeksAndNumbers) {
        TankNumbers x = new TankNumbers();
        for (int i = 0; i < weeksAndNumbers.length; i += 2) {
            x.find(0, weeksAndNumbers[i + 1], weeksAndNumbers[i], NONE, 0);
        }
        return x;
    }

    static void promise20Maker0To5() {
        Bench.ends(0, 0, 5, "runs", 0, 0);
        Bench.answers(Bench.some(), 1, "runs", 0, 0);
        Bench.answers(Bench.some(), 1, "runs", 5, 0);
        Bench.answers(Bench.some(), 0, "runs", 4, 0);
    }

    static void promise20What0And1() {
        Bench.ends(1, 0, 1, "runs", 0, 0);
        Bench.answers(dated(4, 9, 7, 8), 2, "runs", 0, 0);
        Bench.answers(dated(4, 9, 7, 8), 7, "runs", 0, 1);
    }

    static void promise20NoneDated() {
        Bench.answers(new TankNumbers(), 0, "runs", 0, 0);
        Bench.answers(new TankNumbers(), NONE, "runs", 0, 1);
        Bench.answers(dated(NONE, 9, NONE, 8), 0, "runs", 0, 0);
        Bench.answers(dated(NONE, 9, NONE, 8), NONE, "runs", 0, 1);
    }

    static void promise20OneDated() {
        Bench.answers(dated(0, 0), 1, "runs", 0, 0);
        Bench.answers(dated(0, 0), NONE, "runs", 0, 1);
        Bench.answers(dated(NONE, 9999, 29, 9998, NONE, 0), 1, "runs", 0, 0);
    }

    static void promise20LikeNumbersDoNotFall() {
        Bench.answers(dated(0, 5, 1, 5), 1, "runs", 0, 0);
        Bench.answers(dated(0, 5, 1, 5), NONE, "runs", 0, 1);
        Bench.answers(dated(0, 5, 1, 4), 2, "runs", 0, 0);
        Bench.answers(dated(0, 5, 1, 6), 1, "runs", 0, 0);
    }

    static void promise20WithinAWeekByNumbers() {
        Bench.answers(dated(3, 9, 3, 1, 3, 5), 1, "runs", 0, 0);
        Bench.answers(dated(3, 9, 3, 1, 4, 5), 2, "runs", 0, 0);
        Bench.answers(dated(3, 9, 3, 1, 4, 5), 4, "runs", 0, 1);
    }

    static void promise20ByWeeksNotAsTheyCame() {
        Bench.answers(dated(9, 30, 2, 10, 5, 20), 1, "runs", 0, 0);
        Bench.answers(dated(9, 10, 2, 30, 5, 20), 3, "runs", 0, 0);
    }

    static void promise20BeganTheFirstSuch() {
        Bench.answers(dated(0, 3, 1, 2, 29, 1), 1, "runs", 0, 1);
        Bench.answers(dated(0, 1, 1, 2, 29, 1), 29, "runs", 0, 1);
        Bench.answers(dated(0, 9999, 29, 0), 29, "runs", 0, 1);
    }

    static void promise20AsManyAsWeeks() {
        TankNumbers x = new TankNumbers();
        for (int i = 0; i < 60; i++) {
            x.find(0, 9999 - i, i % 30, NONE, 0);
        }
        Bench.answers(x, 30, "runs", 0, 0);
        Bench.answers(x, 1, "runs", 0, 1);
    }

    static void promise20AnotherMakersCountNot() {
        TankNumbers x = dated(0, 5);
        x.find(1, 4, 1, NONE, 0);
        Bench.answers(x, 1, "runs", 0, 0);
    }

    // ---- 21: gap

    static void promise21Maker0To5() {
        Bench.ends(0, 0, 5, "gap", 0, 30, 0);
        TankNumbers x = new TankNumbers();
        x.find(0, 0, 0, NONE, 0);
        x.find(5, 0, 9, NONE, 0);
        Bench.answers(x, 9, "gap", 0, 10, 0);
        Bench.answers(x, 1, "gap", 0, 10, 1);
        Bench.answers(x, 0, "gap", 5, 10, 1);
    }

    static void promise21Weeks1To30() {
        Bench.ends(1, 1, 30, "gap", 0, 30, 0);
        Bench.answers(Bench.withWeeks(0), 0, "gap", 0, 1, 0);
        Bench.answers(Bench.withWeeks(0), 29, "gap", 0, 30, 0);
        Bench.answers(Bench.withWeeks(29), 29, "gap", 0, 30, 0);
    }

    static void promise21What0And1() {
        Bench.ends(2, 0, 1, "gap", 0, 30, 0);
        Bench.answers(Bench.withWeeks(0, 9), 8, "gap", 0, 10, 0);
        Bench.answers(Bench.withWeeks(0, 9), 1, "gap", 0, 10, 1);
    }

    static void promise21NoneDated() {
        Bench.refused(TankNumbers::new, NO, "gap", 0, 30, 0);
        Bench.refused(() -> Bench.withWeeks(NONE, NONE), NO, "gap", 0, 30, 1);
        Bench.refused(Bench::some, NO, "gap", 4, 30, 0);
    }

    static void promise21InWeeks0ToWLess1() {
        Bench.answers(Bench.withWeeks(7), NO, "gap", 0, 7, 0);
        Bench.answers(Bench.withWeeks(7), 7, "gap", 0, 8, 0);
        Bench.answers(Bench.withWeeks(7, 2), 4, "gap", 0, 7, 0);
        Bench.answers(Bench.withWeeks(7, 2), 3, "gap", 0, 7, 1);
    }

    static void promise21TwelveAreNotTooMany() {
        TankNumbers x = Bench.withWeeks(0, 1, 2, 3, 4, 5, 6, 7, 8, 9, 10, 11);
        Bench.answers(x, 18, "gap", 0, 30, 0);
        x.find(0, 0, 12, NONE, 0);
        Bench.answers(x, NO, "gap", 0, 30, 0);
        Bench.answers(x, NO, "gap", 0, 13, 1);
        Bench.answers(x, 0, "gap", 0, 12, 0);
        x.doubt(0, true);
        Bench.answers(x, 17, "gap", 0, 30, 0);
    }

    static void promise21LikeDatesAreStillSoMany() {
        TankNumbers x = Bench.withWeeks(4, 4, 4, 4, 4, 4, 4, 4, 4, 4, 4, 4);
        Bench.answers(x, 25, "gap", 0, 30, 0);
        x.find(0, 0, 4, NONE, 0);
        Bench.answers(x, NO, "gap", 0, 30, 0);
    }

    static void promise21FirstWeekIsNoneWhereGIs0() {
        Bench.answers(Bench.withWeeks(0), NONE, "gap", 0, 1, 1);
        Bench.answers(Bench.withWeeks(1, 0, 2), NONE, "gap", 0, 3, 1);
        Bench.answers(Bench.withWeeks(1, 0, 2), 0, "gap", 0, 3, 0);
    }

    static void promise21AtBothEnds() {
        Bench.answers(Bench.withWeeks(29), 0, "gap", 0, 30, 1);
        Bench.answers(Bench.withWeeks(0), 1, "gap", 0, 30, 1);
        Bench.answers(Bench.withWeeks(0, 5, 9), 10, "gap", 0, 30, 1);
    }

    static void promise21OfLikeOnesTheFirst() {
        Bench.answers(Bench.withWeeks(2, 5), 2, "gap", 0, 8, 0);
        Bench.answers(Bench.withWeeks(2, 5), 0, "gap", 0, 8, 1);
        Bench.answers(Bench.withWeeks(0, 3, 6), 1, "gap", 0, 9, 1);
        Bench.answers(Bench.withWeeks(0, 3, 6), 7, "gap", 0, 10, 1);
    }

    static void promise21BadIsAheadOfNo() {
        Bench.refused(TankNumbers::new, BAD, "gap", 0, 31, 0);
        Bench.refused(TankNumbers::new, BAD, "gap", 0, 30, 2);
        Bench.refused(() -> Bench.withWeeks(0, 0, 0, 0, 0, 0, 0, 0, 0, 0, 0, 0, 0), BAD, "gap", 6, 30, 0);
    }

    // ---- 22: chance

    static void promise22Maker0To5() {
        Bench.ends(0, 0, 5, "chance", 0, 30);
        TankNumbers x = new TankNumbers();
        x.find(0, 0, 0, NONE, 0);
        x.find(5, 0, 1, NONE, 0);
        Bench.gives(x, 2, 3, "chance", 0, 3);
        Bench.gives(x, 1, 1, "chance", 5, 3);
    }

    static void promise22Weeks1To30() {
        Bench.ends(1, 1, 30, "chance", 0, 30);
        Bench.gives(Bench.withWeeks(0), 1, 1, "chance", 0, 1);
        Bench.gives(Bench.withWeeks(0), 1, 15, "chance", 0, 30);
        Bench.gives(Bench.withWeeks(29), 1, 15, "chance", 0, 30);
    }

    static void promise22OfGWeeksOrMore() {
        // weeks 1 and 2 of 4, g 1: every way leaves a free week
        Bench.gives(Bench.withWeeks(1, 2), 1, 1, "chance", 0, 4);
        // weeks 0 and 3 of 4, g 2: 00 01 03 11 22 23 33, those of unlike weeks twice: 10 of 16
        Bench.gives(Bench.withWeeks(0, 3), 5, 8, "chance", 0, 4);
        // weeks 0 and 0 of 4, g 3: 00 and 33
        Bench.gives(Bench.withWeeks(0, 0), 1, 8, "chance", 0, 4);
    }

    static void promise22AGapOf0IsInAllWays() {
        Bench.gives(Bench.withWeeks(0, 1), 1, 1, "chance", 0, 2);
        Bench.gives(Bench.withWeeks(0, 0, 0), 1, 1, "chance", 0, 1);
        Bench.gives(Bench.withWeeks(0, 1, 2, 3, 4, 5, 6, 7, 8, 9, 10, 11), 1, 1, "chance", 0, 12);
    }

    static void promise22NoneDated() {
        Bench.refused(TankNumbers::new, NO, "chance", 0, 30);
        Bench.refused(Bench::some, NO, "chance", 4, 30);
        Bench.refused(Bench::some, NO, "chance", 0, 3);
        Bench.gives(Bench.some(), 1, 2, "chance", 0, 4);
    }

    static void promise22TwelveAreNotTooMany() {
        TankNumbers x = Bench.withWeeks(0, 0, 0, 0, 0, 0, 0, 0, 0, 0, 0, 0);
        // all in week 0, or all in week 1: 2 of 2 to the 12
        Bench.gives(x, 1, 2048, "chance", 0, 2);
        x.find(0, 0, 1, NONE, 0);
        Bench.answers(x, NO, "chance", 0, 2);
        Bench.isFraction(x, "behind NO", 1, 2048);
        Bench.gives(x, 1, 1, "chance", 0, 1);
    }

    static void promise22TwelveIn30Weeks() {
        TankNumbers x = Bench.withWeeks(29, 29, 29, 29, 29, 29, 29, 29, 29, 29, 29, 29);
        Bench.answers(x, 1, "chance", 0, 30);
        Bench.answers(x, 1, "limb", 0, 0);
        Bench.isLong(x, 1, BigInteger.valueOf(30).pow(12).shiftRight(1));
        x.find(0, 0, 29, NONE, 0);
        Bench.answers(x, NO, "chance", 0, 30);
    }

    static void promise22BadIsAheadOfNo() {
        Bench.refused(TankNumbers::new, BAD, "chance", 0, 0);
        Bench.refused(TankNumbers::new, BAD, "chance", 6, 30);
        Bench.refused(Bench::some, BAD, "chance", 4, 31);
    }

    public static void main(String[] args) {
        Bench.runAll(EdgesOfWordsTest.class, 12, 22);
    }
}
