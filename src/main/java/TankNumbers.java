import java.util.Arrays;

/** Numbers on gearboxes; the document's promises 1 to 33 say what each call answers. */
public final class TankNumbers {
    public static final int NONE = -1, BAD = -2, NO = -3, FULL = -4;

    private static final int MAKERS = 6;
    private static final int FRONTS = 4;
    private static final int AGENTS = 6;
    private static final int NUMBERS = 10000;
    private static final int WEEKS = 30;
    private static final int MOULDS = 20;
    private static final int STEPS = 99;
    private static final int MOST_MADE = 150;
    private static final int MOST_ASKED = 200;
    private static final int MOST_MOULDS_ASKED = 30;
    private static final int MOST_DATED = 12;
    private static final int BAD_BOOK = -10;

    private final Finds finds = new Finds();
    private final Marks marks = new Marks();
    private final Sureness sureness = new Sureness();
    private final MouldOdds mouldOdds = new MouldOdds();
    private final Words words = new Words();
    private final Dates dates = new Dates();
    private final Agents agents = new Agents();
    private final Fronts fronts = new Fronts();
    private final Books books = new Books();
    private final Fraction fraction = new Fraction();
    private int mostMade = MOST_MADE;

    public TankNumbers() {
    }

    // ---- finds

    public int find(int maker, int number, int week, int mould, int front) {
        if (!within(maker, 0, MAKERS - 1) || !within(number, 0, NUMBERS - 1)
                || !within(week, NONE, WEEKS - 1) || !within(mould, NONE, MOULDS - 1)
                || !within(front, 0, FRONTS - 1)) {
            return BAD;
        }
        return finds.add(maker, number, week, mould, front);
    }

    public int doubt(int find, boolean is) {
        if (!within(find, 0, finds.size - 1)) {
            return BAD;
        }
        if (finds.doubted[find] == is) {
            return NO;
        }
        finds.doubted[find] = is;
        return 1;
    }

    public int numbers(int maker, int what) {
        if (!within(maker, 0, MAKERS - 1) || !within(what, 0, 2)) {
            return BAD;
        }
        finds.gather(maker, NONE, marks);
        if (what == 0) {
            return marks.size;
        }
        int step = marks.commonStep();
        return what == 1 ? step : stepsOf(step);
    }

    public int fits(int maker, int first, int step) {
        if (!isScheme(maker, first, step)) {
            return BAD;
        }
        finds.gather(maker, NONE, marks);
        return marks.suit(first, step) ? 1 : 0;
    }

    public int most(int n) {
        if (!within(n, 1, MOST_MADE)) {
            return BAD;
        }
        int before = mostMade;
        mostMade = n;
        return before;
    }

    public int odds(int maker, int first, int step, int n) {
        if (!isScheme(maker, first, step) || !within(n, 0, MOST_ASKED)) {
            return BAD;
        }
        if (!weigh(maker, NONE, first, step)) {
            return NO;
        }
        sureness.share(n, n, fraction);
        return 1;
    }

    public int atLeast(int maker, int first, int step, int x) {
        if (!isScheme(maker, first, step) || !within(x, 0, MOST_ASKED)) {
            return BAD;
        }
        if (!weigh(maker, NONE, first, step)) {
            return NO;
        }
        sureness.share(x, MOST_ASKED, fraction);
        return 1;
    }

    public int span(int maker, int first, int step, int a, int b, int what) {
        if (!isScheme(maker, first, step) || !isPart(a, b) || !within(what, 0, 1)) {
            return BAD;
        }
        if (!weigh(maker, NONE, first, step)) {
            return NO;
        }
        return what == 0 ? sureness.lowest : sureness.spanEnd(a, b);
    }

    public int told(int maker, int first, int step, int what) {
        if (!isScheme(maker, first, step) || !within(what, 0, 1)) {
            return BAD;
        }
        if (!weigh(maker, NONE, first, step)) {
            return NO;
        }
        // fewer things have fewer sets, so the lowest that may be is the likeliest
        return what == 0 ? sureness.lowest : marks.littleMore(first, step);
    }

    public int far(int find, int first, int step) {
        if (!within(find, 0, finds.size - 1) || !isScheme(0, first, step)) {
            return BAD;
        }
        int maker = finds.maker[find];
        finds.gather(maker, NONE, marks);
        if (finds.doubted[find] || !marks.suit(first, step)) {
            return NO;
        }
        if (!weigh(maker, find, first, step)) {
            return NO;
        }
        if (marks.size == 0) {
            return 0;
        }
        int place = placeOf(finds.number[find], first, step);
        return place + 1 > sureness.spanEnd(99, 100) ? 1 : 0;
    }

    // ---- moulds

    public int moulds(int maker, int what) {
        if (!within(maker, 0, MAKERS - 1) || !within(what, 0, 1)) {
            return BAD;
        }
        return what == 0 ? finds.withMould(maker) : finds.unlikeMoulds(maker);
    }

    public int thereAre(int maker, int n) {
        if (!within(maker, 0, MAKERS - 1) || !within(n, 0, MOST_MOULDS_ASKED)) {
            return BAD;
        }
        mouldOdds.share(finds.withMould(maker), finds.unlikeMoulds(maker), n, fraction);
        return 1;
    }

    public int can(int moulds, int day, int days, int wheels, int weeks) {
        if (!within(moulds, 1, MOULDS) || !within(day, 1, 9) || !within(days, 1, 7)
                || !within(wheels, 1, 99) || !within(weeks, 0, 99)) {
            return BAD;
        }
        return moulds * day * days * weeks / wheels;
    }

    // ---- words, runs, gaps

    public int word(int length, int letters, int low, int high) {
        if (!Words.isRow(length, letters) || !within(low, 0, NUMBERS - 1)
                || !within(high, low, NUMBERS - 1)) {
            return BAD;
        }
        return words.add(length, letters, low, high);
    }

    public int wordless() {
        return words.clear();
    }

    public int keys() {
        return words.ways();
    }

    public int may(int letter) {
        if (!within(letter, 0, Words.LETTERS - 1)) {
            return BAD;
        }
        return words.figuresOf(letter);
    }

    public int reads(int length, int letters, int what) {
        if (!Words.isRow(length, letters) || !within(what, 0, 1)) {
            return BAD;
        }
        return words.extreme(length, letters, what == 1);
    }

    public int runs(int maker, int what) {
        if (!within(maker, 0, MAKERS - 1) || !within(what, 0, 1)) {
            return BAD;
        }
        dates.lineUp(finds, maker);
        return what == 0 ? dates.runsMet() : dates.firstNewRun();
    }

    public int gap(int maker, int weeks, int what) {
        if (!within(maker, 0, MAKERS - 1) || !within(weeks, 1, WEEKS) || !within(what, 0, 1)) {
            return BAD;
        }
        if (!within(dates.mark(finds, maker, weeks), 1, MOST_DATED)) {
            return NO;
        }
        return what == 0 ? dates.gapLength : dates.gapStart;
    }

    public int chance(int maker, int weeks) {
        if (!within(maker, 0, MAKERS - 1) || !within(weeks, 1, WEEKS)) {
            return BAD;
        }
        int dated = dates.mark(finds, maker, weeks);
        if (!within(dated, 1, MOST_DATED)) {
            return NO;
        }
        dates.likelihood(weeks, dated, fraction);
        return 1;
    }

    // ---- agents, fronts, books

    public int said(int agent, int said, int so) {
        if (!within(agent, 0, AGENTS - 1) || !within(said, 0, NUMBERS - 1)
                || !within(so, 0, NUMBERS - 1)) {
            return BAD;
        }
        return agents.add(agent, said, so);
    }

    public int agent(int agent, int what) {
        if (!within(agent, 0, AGENTS - 1) || !within(what, 0, 1)) {
            return BAD;
        }
        agents.sumUp(agent);
        long below = what == 0 ? agents.allSaid : agents.pairs;
        if (below == 0) {
            return NO;
        }
        fraction.become(what == 0 ? agents.allSo : agents.allOff, below);
        return 1;
    }

    public int putRight(int agent, int x) {
        if (!within(agent, 0, AGENTS - 1) || !within(x, 0, NUMBERS - 1)) {
            return BAD;
        }
        agents.sumUp(agent);
        if (agents.allSaid == 0) {
            return NO;
        }
        fraction.become(x * agents.allSo, agents.allSaid);
        return 1;
    }

    public int front(int front, int a, int b) {
        if (!within(front, 0, FRONTS - 1) || !isPart(a, b)) {
            return BAD;
        }
        fronts.above[front] = a;
        fronts.below[front] = b;
        return 1;
    }

    public int lost(int front) {
        if (!within(front, NONE, FRONTS - 1)) {
            return BAD;
        }
        fronts.lossAt(front, finds, fraction);
        return 1;
    }

    public int book(int maker, int many, int first, int step) {
        if (!isScheme(maker, first, step) || many == 0 || !within(many, NONE, MOST_MADE)) {
            return BAD_BOOK;
        }
        return books.write(maker, many, first, step);
    }

    public int held(int a, int b, int what) {
        if (!isPart(a, b) || !within(what, 0, 1)) {
            return BAD;
        }
        int met = 0;
        for (int maker = 0; maker < MAKERS; maker++) {
            if (books.has(maker) && weigh(maker, NONE, books.first[maker], books.step[maker])) {
                boolean inside = within(books.many[maker], sureness.lowest, sureness.spanEnd(a, b));
                met += inside == (what == 0) ? 1 : 0;
            }
        }
        return met;
    }

    public int sign(int what) {
        if (!within(what, 0, 2)) {
            return BAD;
        }
        if (what == 0) {
            return fraction.above.size > 0 ? 1 : 0;
        }
        return what == 1 ? fraction.above.size : fraction.below.size;
    }

    public int limb(int which, int i) {
        if (!within(which, 0, 1) || i < 0) {
            return BAD;
        }
        Natural part = which == 0 ? fraction.above : fraction.below;
        return i < part.size ? part.at(i) : NONE;
    }

    public int count(int what) {
        switch (what) {
            case 0: return finds.size;
            case 1: return finds.allDoubted();
            case 2: return words.size;
            case 3: return agents.size;
            case 4: return books.written();
            default: return BAD;
        }
    }

    public long digest() {
        long h = 433;
        for (int what = 0; what <= 4; what++) {
            h = 31 * h + count(what);
        }
        h = finds.mix(h);
        for (int maker = 0; maker < MAKERS; maker++) {
            for (int what = 0; what <= 2; what++) {
                h = 31 * h + numbers(maker, what);
            }
            h = 31 * h + runs(maker, 0);
        }
        h = 31 * h + mostMade;
        h = words.mix(h);
        h = agents.mix(h);
        h = fronts.mix(h);
        h = books.mix(h);
        for (int what = 0; what <= 2; what++) {
            h = 31 * h + sign(what);
        }
        return fraction.below.mix(fraction.above.mix(h));
    }

    private static boolean within(int value, int least, int greatest) {
        return value >= least && value <= greatest;
    }

    private static boolean isScheme(int maker, int first, int step) {
        return within(maker, 0, MAKERS - 1) && within(first, 0, NUMBERS - 1) && within(step, 1, STEPS);
    }

    private static boolean isPart(int a, int b) {
        return a > 0 && a <= b && b <= 1000;
    }

    /** The steps 1 .. 9 that the step is made of, as bits; 0 is made of each of them. */
    private static int stepsOf(int step) {
        int bits = 0;
        for (int s = 1; s <= 9; s++) {
            if (step % s == 0) {
                bits |= 1 << s;
            }
        }
        return bits;
    }

    private static int placeOf(int number, int first, int step) {
        return step > 0 ? (number - first) / step : 0;
    }

    private static long commonMeasure(long a, long b) {
        long greater = a;
        long less = b;
        for (int i = 0; i < 200 && less != 0; i++) {
            long rest = greater % less;
            greater = less;
            less = rest;
        }
        return greater;
    }

    /** Readies the odds of how many a maker made, one find left out; false where there are none. */
    private boolean weigh(int maker, int without, int first, int step) {
        finds.gather(maker, without, marks);
        if (!marks.suit(first, step) || marks.topPlace(first, step) >= mostMade) {
            return false;
        }
        sureness.prepare(marks.size, marks.topPlace(first, step) + 1, mostMade);
        return true;
    }

    /** A whole number, 0 or more: digits to the base 2 to the 30, the lowest first. */
    private static final class Natural {
        private static final int BITS = 30;
        private static final int MASK = (1 << BITS) - 1;
        // 20 moulds and 60 finds need 56 limbs at most
        private static final int ROOM = 64;

        private final int[] limbs = new int[ROOM];
        private int size;

        int at(int i) {
            return i >= 0 && i < size ? limbs[i] : 0;
        }

        void become(long value) {
            size = 0;
            long rest = value;
            for (int i = 0; i < 3; i++) {
                append((int) (rest & MASK));
                rest >>>= BITS;
            }
            trim();
        }

        void copy(Natural other) {
            System.arraycopy(other.limbs, 0, limbs, 0, other.size);
            size = other.size;
        }

        void add(Natural other) {
            int longest = Math.max(size, other.size);
            int carry = 0;
            for (int i = 0; i < longest; i++) {
                int sum = at(i) + other.at(i) + carry;
                limbs[i] = sum & MASK;
                carry = sum >>> BITS;
            }
            size = longest;
            append(carry);
            trim();
        }

        /** The other one is not the greater one. */
        void subtract(Natural other) {
            int borrow = 0;
            for (int i = 0; i < size; i++) {
                int rest = limbs[i] - other.at(i) - borrow;
                limbs[i] = rest & MASK;
                borrow = rest >>> 31;
            }
            trim();
        }

        void multiply(int factor) {
            long carry = 0;
            for (int i = 0; i < size; i++) {
                carry += (long) limbs[i] * factor;
                limbs[i] = (int) (carry & MASK);
                carry >>>= BITS;
            }
            append((int) carry);
            trim();
        }

        int remainder(int divisor) {
            long rest = 0;
            for (int i = size - 1; i >= 0 && divisor > 0; i--) {
                rest = ((rest << BITS) | limbs[i]) % divisor;
            }
            return (int) rest;
        }

        void divide(int divisor) {
            long rest = 0;
            for (int i = size - 1; i >= 0 && divisor > 0; i--) {
                rest = (rest << BITS) | limbs[i];
                limbs[i] = (int) (rest / divisor);
                rest %= divisor;
            }
            trim();
        }

        /** The divisor is odd and measures this number, so the lowest limbs alone tell each digit. */
        void divideByOdd(Natural divisor) {
            int inverse = inverseOf(divisor.at(0));
            for (int i = 0; i < size; i++) {
                int digit = (limbs[i] * inverse) & MASK;
                takeTimes(divisor, digit, i);
                limbs[i] = digit;
            }
            trim();
        }

        private void takeTimes(Natural divisor, int digit, int from) {
            long borrow = 0;
            for (int i = from; i < size; i++) {
                borrow += limbs[i] - (long) digit * divisor.at(i - from);
                limbs[i] = (int) (borrow & MASK);
                borrow >>= BITS;
            }
        }

        /** Each round doubles the bits that hold; an odd number is its own inverse to 3 bits. */
        private static int inverseOf(int odd) {
            int inverse = odd;
            for (int i = 0; i < 4; i++) {
                inverse *= 2 - odd * inverse;
            }
            return inverse;
        }

        int twos() {
            for (int i = 0; i < size; i++) {
                if (limbs[i] != 0) {
                    return i * BITS + Integer.bitCount((limbs[i] & -limbs[i]) - 1);
                }
            }
            return 0;
        }

        void dropBits(int bits) {
            int whole = bits / BITS;
            int part = bits % BITS;
            for (int i = 0; i < size; i++) {
                long pair = at(i + whole) | ((long) at(i + whole + 1) << BITS);
                limbs[i] = (int) ((pair >> part) & MASK);
            }
            trim();
        }

        int compareWith(Natural other) {
            for (int i = Math.max(size, other.size) - 1; i >= 0; i--) {
                if (at(i) != other.at(i)) {
                    return Integer.compare(at(i), other.at(i));
                }
            }
            return 0;
        }

        long mix(long h) {
            long mixed = h;
            for (int i = 0; i < size; i++) {
                mixed = 31 * mixed + limbs[i];
            }
            return mixed;
        }

        private void append(int limb) {
            if (size < ROOM) {
                limbs[size] = limb;
                size++;
            }
        }

        private void trim() {
            for (int i = size - 1; i >= 0 && limbs[i] == 0; i--) {
                size = i;
            }
        }
    }

    /** THE FRACTION: always in lowest terms, below above 0. */
    private static final class Fraction {
        private final Natural above = new Natural();
        private final Natural below = new Natural();
        private final Natural left = new Natural();
        private final Natural right = new Natural();

        Fraction() {
            below.become(1);
        }

        void become(long over, long under) {
            long measure = commonMeasure(over, under);
            if (measure > 0 && under > 0) {
                above.become(over / measure);
                below.become(under / measure);
            }
        }

        void become(Natural over, Natural under) {
            above.copy(over);
            below.copy(under);
            lower();
        }

        void becomeOneBy(Natural under) {
            above.become(1);
            below.copy(under);
        }

        /** Keeps to lowest terms: what the factor shares with below is taken from both. */
        void times(int factor) {
            int shared = (int) commonMeasure(factor, below.remainder(factor));
            if (shared > 0) {
                below.divide(shared);
                above.multiply(factor / shared);
            }
        }

        private void lower() {
            if (above.size == 0) {
                below.become(1);
                return;
            }
            int twos = Math.min(above.twos(), below.twos());
            above.dropBits(twos);
            below.dropBits(twos);
            measureOdd();
            above.divideByOdd(left);
            below.divideByOdd(left);
        }

        /** The greatest odd measure of above and below, left in left. */
        private void measureOdd() {
            left.copy(above);
            left.dropBits(left.twos());
            right.copy(below);
            right.dropBits(right.twos());
            int order = left.compareWith(right);
            // each round takes one bit at least from one of the two
            for (int i = 0; i < 2 * Natural.ROOM * Natural.BITS && order != 0; i++) {
                Natural greater = order > 0 ? left : right;
                greater.subtract(order > 0 ? right : left);
                greater.dropBits(greater.twos());
                order = left.compareWith(right);
            }
        }
    }

    /** FINDS, as they come. */
    private static final class Finds {
        private static final int ROOM = 60;

        private final int[] maker = new int[ROOM];
        private final int[] number = new int[ROOM];
        private final int[] week = new int[ROOM];
        private final int[] mould = new int[ROOM];
        private final int[] front = new int[ROOM];
        private final boolean[] doubted = new boolean[ROOM];
        private int size;

        int add(int ofMaker, int itsNumber, int itsWeek, int itsMould, int atFront) {
            if (size >= ROOM) {
                return FULL;
            }
            maker[size] = ofMaker;
            number[size] = itsNumber;
            week[size] = itsWeek;
            mould[size] = itsMould;
            front[size] = atFront;
            size++;
            return size - 1;
        }

        boolean countsFor(int i, int ofMaker) {
            return i >= 0 && i < size && maker[i] == ofMaker && !doubted[i];
        }

        void gather(int ofMaker, int without, Marks marks) {
            marks.clear();
            for (int i = 0; i < size; i++) {
                if (i != without && countsFor(i, ofMaker)) {
                    marks.put(number[i]);
                }
            }
        }

        int withMould(int ofMaker) {
            int met = 0;
            for (int i = 0; i < size; i++) {
                if (countsFor(i, ofMaker) && mould[i] != NONE) {
                    met++;
                }
            }
            return met;
        }

        int unlikeMoulds(int ofMaker) {
            int bits = 0;
            for (int i = 0; i < size; i++) {
                if (countsFor(i, ofMaker) && mould[i] != NONE) {
                    bits |= 1 << mould[i];
                }
            }
            return Integer.bitCount(bits);
        }

        int foundAt(int atFront) {
            int met = 0;
            for (int i = 0; i < size; i++) {
                if (front[i] == atFront && !doubted[i]) {
                    met++;
                }
            }
            return met;
        }

        int allDoubted() {
            int met = 0;
            for (int i = 0; i < size; i++) {
                if (doubted[i]) {
                    met++;
                }
            }
            return met;
        }

        long mix(long h) {
            long mixed = h;
            for (int i = 0; i < size; i++) {
                mixed = 31 * mixed + maker[i];
                mixed = 31 * mixed + number[i];
                mixed = 31 * mixed + week[i];
                mixed = 31 * mixed + mould[i];
                mixed = 31 * mixed + front[i];
                mixed = 31 * mixed + (doubted[i] ? 1 : 0);
            }
            return mixed;
        }
    }

    /** NUMBERS of a MAKER: each once, the least first. */
    private static final class Marks {
        private final int[] row = new int[Finds.ROOM];
        private int size;

        void clear() {
            size = 0;
        }

        void put(int number) {
            int place = 0;
            while (place < size && row[place] < number) {
                place++;
            }
            if (size >= row.length || (place < size && row[place] == number)) {
                return;
            }
            for (int i = size; i > place; i--) {
                row[i] = row[i - 1];
            }
            row[place] = number;
            size++;
        }

        int commonStep() {
            long step = 0;
            for (int i = 1; i < size; i++) {
                step = commonMeasure(row[i] - row[0], step);
            }
            return (int) step;
        }

        boolean suit(int first, int step) {
            for (int i = 0; i < size; i++) {
                if (step <= 0 || row[i] < first || (row[i] - first) % step != 0) {
                    return false;
                }
            }
            return true;
        }

        /** The greatest PLACE; NONE without NUMBERS. */
        int topPlace(int first, int step) {
            return size == 0 ? NONE : placeOf(row[size - 1], first, step);
        }

        int littleMore(int first, int step) {
            int made = topPlace(first, step) + 1;
            return size == 0 ? 0 : made + made / size - 1;
        }
    }

    /** ODDS of how many things a MAKER made. */
    private static final class Sureness {
        /** Their product is made of every number of sets of N things, N up to 150. */
        private static final int[] PRIME_POWERS = {
            128, 81, 125, 49, 121, 13, 17, 19, 23, 29, 31, 37, 41, 43, 47, 53, 59, 61, 67, 71,
            73, 79, 83, 89, 97, 101, 103, 107, 109, 113, 127, 131, 137, 139, 149
        };

        private final Natural weight = new Natural();
        private final Natural whole = new Natural();
        private final Natural part = new Natural();
        private final Natural goal = new Natural();
        private int found;
        private int lowest;
        private int highest;

        /** So many NUMBERS were found, of so many things at least and at most. */
        void prepare(int numbersFound, int least, int most) {
            found = numbersFound;
            lowest = Math.max(1, least);
            highest = most;
            whole.become(0);
            begin();
            for (int n = lowest; n <= highest; n++) {
                whole.add(weight);
                step(n + 1);
            }
        }

        void share(int from, int to, Fraction fraction) {
            part.become(0);
            begin();
            for (int n = lowest; n <= highest; n++) {
                if (n >= from && n <= to) {
                    part.add(weight);
                }
                step(n + 1);
            }
            fraction.become(part, whole);
        }

        /** Weights never grow with N, so the narrowest span begins at the lowest. */
        int spanEnd(int a, int b) {
            goal.copy(whole);
            goal.multiply(a);
            begin();
            weight.multiply(b);
            part.copy(weight);
            int n = lowest;
            while (n < highest && part.compareWith(goal) < 0) {
                n++;
                step(n);
                part.add(weight);
            }
            return n;
        }

        /** Odds are shares, so the weight of the lowest may be any that keeps the others whole. */
        private void begin() {
            weight.become(1);
            for (int power : PRIME_POWERS) {
                weight.multiply(power);
            }
        }

        /** From the weight of n less 1 to that of n; beyond 150 it would not stay whole. */
        private void step(int n) {
            if (n <= highest) {
                weight.multiply(n - found);
                weight.divide(n);
            }
        }
    }

    /** ODDS of how many MOULDS there are. */
    private static final class MouldOdds {
        /** Made of each of 1 .. 20. */
        private static final int ALL_MEASURE = 232792560;

        private final Natural term = new Natural();
        private final Natural whole = new Natural();

        void share(int met, int unlike, int n, Fraction fraction) {
            int least = Math.max(1, unlike);
            if (n < least || n > MOULDS) {
                fraction.become(0, 1);
                return;
            }
            whole.become(0);
            for (int m = least; m <= MOULDS; m++) {
                weigh(met, unlike, m);
                whole.add(term);
            }
            fraction.becomeOneBy(whole);
            for (int i = 0; i < unlike; i++) {
                fraction.times(n - i);
            }
            for (int i = 0; i < met; i++) {
                fraction.times(ALL_MEASURE / n);
            }
        }

        private void weigh(int met, int unlike, int m) {
            term.become(1);
            for (int i = 0; i < unlike; i++) {
                term.multiply(m - i);
            }
            for (int i = 0; i < met && m > 0; i++) {
                term.multiply(ALL_MEASURE / m);
            }
        }
    }

    /** WORDS, as they come, and the KEYS by which all of them hold. */
    private static final class Words {
        private static final int ROOM = 12;
        private static final int LETTERS = 6;
        private static final int FIGURES = 10;
        private static final int ALL_FIGURES = (1 << FIGURES) - 1;
        private static final int[] ROWS = {1, 6, 36, 216, 1296};

        private final int[] length = new int[ROOM];
        private final int[] letters = new int[ROOM];
        private final int[] low = new int[ROOM];
        private final int[] high = new int[ROOM];
        private int size;
        private boolean searched;
        private int found;
        private final int[] bits = new int[LETTERS];
        // each letter's figures in the search, from .. to: 0 .. 9, or the one that it was given
        private final int[] least = new int[LETTERS];
        private final int[] greatest = new int[LETTERS];
        private int used;

        static boolean isRow(int length, int letters) {
            return within(length, 1, 4) && within(letters, 0, ROWS[length] - 1);
        }

        int add(int itsLength, int itsLetters, int itsLow, int itsHigh) {
            if (size >= ROOM) {
                return FULL;
            }
            length[size] = itsLength;
            letters[size] = itsLetters;
            low[size] = itsLow;
            high[size] = itsHigh;
            size++;
            searched = false;
            return size - 1;
        }

        int clear() {
            int gone = size;
            size = 0;
            searched = false;
            return gone;
        }

        int ways() {
            searchAll();
            return found;
        }

        int figuresOf(int letter) {
            searchAll();
            return letter >= 0 && letter < LETTERS ? bits[letter] : 0;
        }

        private void searchAll() {
            if (searched) {
                return;
            }
            searched = true;
            Arrays.fill(bits, 0);
            int open = startSearch();
            found = open == NONE ? 0 : tally(this, 0, open);
        }

        /** The row's own letters come first in the search, so the first key met is the one. */
        int extreme(int rowLength, int rowLetters, boolean downwards) {
            int open = startSearch();
            boolean met = open != NONE && seek(this, 0, open, rowLength, rowLetters, downwards);
            return met ? valueOf(least, rowLength, rowLetters) : NONE;
        }

        /** No letter has a figure yet; which words are open then. */
        private int startSearch() {
            Arrays.fill(least, 0);
            Arrays.fill(greatest, FIGURES - 1);
            used = 0;
            return undecided((1 << size) - 1);
        }

        private boolean isFree(int letter) {
            return least[letter] != greatest[letter];
        }

        private void give(int letter, int figure) {
            least[letter] = figure;
            greatest[letter] = figure;
            used |= 1 << figure;
        }

        private void takeBack(int letter) {
            used &= ~(1 << least[letter]);
            least[letter] = 0;
            greatest[letter] = FIGURES - 1;
        }

        /** Of the open words, as bits, those that the free letters still decide; NONE: one can't hold. */
        private int undecided(int open) {
            int still = 0;
            for (int w = 0; w < size; w++) {
                if ((open & 1 << w) != 0) {
                    int from = valueOf(least, length[w], letters[w]);
                    int to = valueOf(greatest, length[w], letters[w]);
                    if (to < low[w] || from > high[w]) {
                        return NONE;
                    }
                    still |= from < low[w] || to > high[w] ? 1 << w : 0;
                }
            }
            return still;
        }

        /** How many keys have the figures given so far; notes what each letter may be in them. */
        private static int tally(Words words, int depth, int open) {
            if (open == 0) {
                return words.countRest();
            }
            int letter = depth < LETTERS ? words.freeLetterOf(open) : NONE;
            int met = 0;
            for (int f = 0; f < FIGURES && letter != NONE; f++) {
                if ((words.used >> f & 1) == 0) {
                    words.give(letter, f);
                    int still = words.undecided(open);
                    int ways = still == NONE ? 0 : tally(words, depth + 1, still);
                    words.takeBack(letter);
                    words.bits[letter] |= ways > 0 ? 1 << f : 0;
                    met += ways;
                }
            }
            return met;
        }

        /** All words hold, so free letters may be any figures left: these keys need no trying. */
        private int countRest() {
            int ways = 1;
            int left = FIGURES - Integer.bitCount(used);
            for (int letter = 0; letter < LETTERS && left > FIGURES - LETTERS; letter++) {
                if (isFree(letter)) {
                    bits[letter] |= ALL_FIGURES & ~used;
                    ways *= left;
                    left--;
                }
            }
            return ways;
        }

        /** Stops at the first key, whose figures stay. */
        private static boolean seek(Words words, int depth, int open, int rowLength, int rowLetters,
                boolean downwards) {
            int letter = words.freeLetterIn(rowLength, rowLetters);
            if (letter == NONE && open == 0) {
                return true;
            }
            letter = letter == NONE ? words.freeLetterOf(open) : letter;
            for (int i = 0; i < FIGURES && letter != NONE && depth < LETTERS; i++) {
                int f = downwards ? FIGURES - 1 - i : i;
                if ((words.used >> f & 1) == 0) {
                    words.give(letter, f);
                    int still = words.undecided(open);
                    if (still != NONE && seek(words, depth + 1, still, rowLength, rowLetters, downwards)) {
                        return true;
                    }
                    words.takeBack(letter);
                }
            }
            return false;
        }

        /** The highest places tell most, so the first free letter of the first of these words. */
        private int freeLetterOf(int open) {
            for (int w = 0; w < size; w++) {
                if ((open & 1 << w) != 0) {
                    return freeLetterIn(length[w], letters[w]);
                }
            }
            return NONE;
        }

        private int freeLetterIn(int rowLength, int rowLetters) {
            for (int behind = rowLength - 1; behind >= 0; behind--) {
                int letter = within(behind, 0, 3) ? rowLetters / ROWS[behind] % LETTERS : 0;
                if (isFree(letter)) {
                    return letter;
                }
            }
            return NONE;
        }

        private static int valueOf(int[] figures, int rowLength, int rowLetters) {
            int value = 0;
            int place = 1;
            int rest = rowLetters;
            for (int i = 0; i < rowLength; i++) {
                value += place * figures[rest % LETTERS];
                rest /= LETTERS;
                place *= 10;
            }
            return value;
        }

        long mix(long h) {
            long mixed = h;
            for (int w = 0; w < size; w++) {
                mixed = 31 * mixed + length[w];
                mixed = 31 * mixed + letters[w];
                mixed = 31 * mixed + low[w];
                mixed = 31 * mixed + high[w];
            }
            return mixed;
        }
    }

    /** RUNS and GAPS of the dated FINDS of a MAKER. */
    private static final class Dates {
        private final int[] line = new int[Finds.ROOM];
        private int lined;
        private int met;
        private int gapLength;
        private int gapStart;
        private final long[][] ways = new long[WEEKS + 1][MOST_DATED + 1];
        private final long[] near = new long[MOST_DATED + 1];

        /** Dated finds by weeks, then numbers. */
        void lineUp(Finds finds, int maker) {
            lined = 0;
            for (int i = 0; i < finds.size; i++) {
                if (finds.countsFor(i, maker) && finds.week[i] != NONE) {
                    putInLine(finds.week[i] * NUMBERS + finds.number[i]);
                }
            }
        }

        private void putInLine(int dated) {
            if (lined >= line.length) {
                return;
            }
            int place = lined;
            while (place > 0 && line[place - 1] > dated) {
                line[place] = line[place - 1];
                place--;
            }
            line[place] = dated;
            lined++;
        }

        private boolean fallsAt(int i) {
            return i > 0 && i < lined && line[i] % NUMBERS < line[i - 1] % NUMBERS;
        }

        int runsMet() {
            int runs = lined == 0 ? 0 : 1;
            for (int i = 1; i < lined; i++) {
                if (fallsAt(i)) {
                    runs++;
                }
            }
            return runs;
        }

        int firstNewRun() {
            for (int i = 1; i < lined; i++) {
                if (fallsAt(i)) {
                    return line[i] / NUMBERS;
                }
            }
            return NONE;
        }

        /** How many are dated in these weeks; the greatest gap is measured on the way. */
        int mark(Finds finds, int maker, int weeks) {
            met = 0;
            int dated = 0;
            for (int i = 0; i < finds.size; i++) {
                if (finds.countsFor(i, maker) && within(finds.week[i], 0, weeks - 1)) {
                    met |= 1 << finds.week[i];
                    dated++;
                }
            }
            measureGap(weeks);
            return dated;
        }

        private void measureGap(int weeks) {
            gapLength = 0;
            gapStart = NONE;
            int free = 0;
            for (int week = 0; week < weeks; week++) {
                free = (met >> week & 1) == 1 ? 0 : free + 1;
                if (free > gapLength) {
                    gapLength = free;
                    gapStart = week - free + 1;
                }
            }
        }

        void likelihood(int weeks, int dated, Fraction fraction) {
            long all = 1;
            for (int i = 0; i < dated; i++) {
                all *= weeks;
            }
            fraction.become(all - waysWithoutGap(weeks, dated), all);
        }

        /** Ways with every gap shorter than the one measured; ways[w] ends with week w less 1 met. */
        private long waysWithoutGap(int weeks, int dated) {
            // before the first week no find is dated, and that is one way
            ways[0][0] = 1;
            for (int w = 1; w <= weeks && w <= WEEKS; w++) {
                sumNear(w, dated);
                for (int n = 0; n <= dated && n <= MOST_DATED; n++) {
                    ways[w][n] = waysToJoin(n);
                }
            }
            sumNear(weeks + 1, dated);
            return within(dated, 0, MOST_DATED) ? near[dated] : 0;
        }

        /** Ways whose last met week lies so near below week w that no gap is long enough. */
        private void sumNear(int w, int dated) {
            Arrays.fill(near, 0);
            for (int v = Math.max(0, w - gapLength); v < w && v <= WEEKS; v++) {
                for (int n = 0; n <= dated && n <= MOST_DATED; n++) {
                    near[n] += ways[v][n];
                }
            }
        }

        /** Of n finds one or more fall in the week, the others before it. */
        private long waysToJoin(int n) {
            long sum = 0;
            long choices = 1;
            for (int here = 1; here <= n; here++) {
                choices = choices * (n - here + 1) / here;
                sum += choices * near[n - here];
            }
            return sum;
        }
    }

    /** What AGENTS said, and what was so. */
    private static final class Agents {
        private static final int ROOM = 20;

        private final int[] agent = new int[ROOM];
        private final int[] said = new int[ROOM];
        private final int[] so = new int[ROOM];
        private int size;
        private int pairs;
        private long allSaid;
        private long allSo;
        private long allOff;

        int add(int ofAgent, int itSaid, int itWasSo) {
            if (size >= ROOM) {
                return FULL;
            }
            agent[size] = ofAgent;
            said[size] = itSaid;
            so[size] = itWasSo;
            size++;
            return size;
        }

        void sumUp(int ofAgent) {
            pairs = 0;
            allSaid = 0;
            allSo = 0;
            allOff = 0;
            for (int i = 0; i < size; i++) {
                if (agent[i] == ofAgent) {
                    pairs++;
                    allSaid += said[i];
                    allSo += so[i];
                    allOff += Math.abs(said[i] - so[i]);
                }
            }
        }

        long mix(long h) {
            long mixed = h;
            for (int i = 0; i < size; i++) {
                mixed = 31 * mixed + agent[i];
                mixed = 31 * mixed + said[i];
                mixed = 31 * mixed + so[i];
            }
            return mixed;
        }
    }

    /** What part of the things lost at each FRONT is found. */
    private static final class Fronts {
        private final int[] above = new int[FRONTS];
        private final int[] below = new int[FRONTS];

        Fronts() {
            Arrays.fill(above, 1);
            Arrays.fill(below, 1);
        }

        /** At one front, or with NONE at all of them together. */
        void lossAt(int front, Finds finds, Fraction fraction) {
            long over = 0;
            long under = 1;
            for (int f = 0; f < FRONTS; f++) {
                if (front == NONE || front == f) {
                    over = over * above[f] + (long) finds.foundAt(f) * below[f] * under;
                    under *= above[f];
                }
            }
            fraction.become(over, under);
        }

        long mix(long h) {
            long mixed = h;
            for (int f = 0; f < FRONTS; f++) {
                mixed = 31 * mixed + above[f];
                mixed = 31 * mixed + below[f];
            }
            return mixed;
        }
    }

    /** BOOKS of MAKERS. */
    private static final class Books {
        private final int[] many = new int[MAKERS];
        private final int[] first = new int[MAKERS];
        private final int[] step = new int[MAKERS];

        Books() {
            Arrays.fill(many, NONE);
        }

        int write(int maker, int howMany, int itsFirst, int itsStep) {
            int before = many[maker];
            many[maker] = howMany;
            first[maker] = itsFirst;
            step[maker] = itsStep;
            return before;
        }

        boolean has(int maker) {
            return many[maker] != NONE;
        }

        int written() {
            int met = 0;
            for (int maker = 0; maker < MAKERS; maker++) {
                if (has(maker)) {
                    met++;
                }
            }
            return met;
        }

        long mix(long h) {
            long mixed = h;
            for (int maker = 0; maker < MAKERS; maker++) {
                mixed = 31 * mixed + many[maker];
                mixed = 31 * mixed + first[maker];
                mixed = 31 * mixed + step[maker];
            }
            return mixed;
        }
    }
}
