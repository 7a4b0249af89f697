import java.util.Arrays;

/**
 * Linear differential equations of orders one to three with polynomial factors over the numbers
 * modulo 32003. Every row that a call needs is made with the object and used again.
 */
public final class RationalOdes {
    private static final int MODULUS = 32003;
    private static final int MODULUS_BITS = 15;
    private static final int MOST_ORDER = 3;
    private static final int FACTOR_POWERS = 5;
    private static final int HAND_POWERS = 13;
    private static final int MADE_POWERS = HAND_POWERS + FACTOR_POWERS - 1;
    private static final int SERIES_POWERS = 31;
    /** i over j stands at 4 i + j. */
    private static final int[] CHOICES = {1, 0, 0, 0, 1, 1, 0, 0, 1, 2, 1, 0, 1, 3, 3, 1};

    private final int order;
    private final long[][] factors = new long[MOST_ORDER + 1][FACTOR_POWERS];
    /** Factors made for one call: those with t + a in place of x, or those of the adjoint. */
    private final long[][] other = new long[MOST_ORDER + 1][FACTOR_POWERS];
    private final long[] atHand = new long[HAND_POWERS];
    private final long[] terms = new long[SERIES_POWERS];
    private final long[] indicial = new long[FACTOR_POWERS];
    private final Roots roots = new Roots();
    private final Base base = new Base();
    private boolean baseKnown = false;

    public RationalOdes(int r) {
        order = Math.max(1, Math.min(MOST_ORDER, r));
    }

    public boolean put(int i, int power, long v) throws IndexOutOfBoundsException {
        needFactorPower(i, power);
        long number = number(v);
        if (factors[i][power] == number) {
            return false;
        }
        factors[i][power] = number;
        baseKnown = false;
        return true;
    }

    public int at(int i, int power) throws IndexOutOfBoundsException {
        needFactorPower(i, power);
        return (int) factors[i][power];
    }

    public void hand(int power, long v) throws IndexOutOfBoundsException {
        needHandPower(power);
        atHand[power] = number(v);
    }

    public int made(int power) {
        if (power < 0 || power >= MADE_POWERS) {
            return 0;
        }
        return (int) madeAt(power);
    }

    public int places() throws IllegalStateException {
        findPlaces();
        return roots.howMany();
    }

    public int place(int k) throws IllegalStateException, IndexOutOfBoundsException {
        findPlaces();
        if (k < 0 || k >= roots.howMany()) {
            throw new IndexOutOfBoundsException("no such place");
        }
        return roots.orNone(k);
    }

    public int level(boolean end, long a) throws IllegalStateException {
        return goTo(end, a);
    }

    public boolean regular(boolean end, long a) throws IllegalStateException {
        int reached = goTo(end, a);
        return otherAt(order, reached + order) != 0;
    }

    public int exponent(boolean end, long a, int k) throws IllegalStateException {
        fillIndicial(goTo(end, a));
        roots.find(indicial);
        return roots.orNone(k);
    }

    public int answers() {
        knowBase();
        return base.size();
    }

    public int answer(int k, int power) throws IndexOutOfBoundsException {
        needHandPower(power);
        needMember(k);
        return (int) base.member(k)[power];
    }

    public boolean solves() {
        for (int power = 0; power < MADE_POWERS; power++) {
            if (madeAt(power) != 0) {
                return false;
            }
        }
        return true;
    }

    public void take(int k) throws IndexOutOfBoundsException {
        needMember(k);
        System.arraycopy(base.member(k), 0, atHand, 0, HAND_POWERS);
    }

    public int series(long a, long c, long d, long e, int power)
            throws IndexOutOfBoundsException, ArithmeticException {
        if (power < 0 || power >= SERIES_POWERS) {
            throw new IndexOutOfBoundsException("no such power in a series");
        }
        shiftToOther(number(a));
        if (other[order][0] == 0) {
            throw new ArithmeticException("no series at a place");
        }
        terms[0] = number(c);
        terms[1] = number(d);
        terms[2] = number(e);
        for (int next = order; next <= power; next++) {
            terms[next] = nextTerm(next);
        }
        return (int) terms[power];
    }

    public void turn() {
        for (int j = 0; j <= order; j++) {
            for (int power = 0; power < FACTOR_POWERS; power++) {
                other[j][power] = adjointAt(j, power);
            }
        }
        for (int j = 0; j <= order; j++) {
            System.arraycopy(other[j], 0, factors[j], 0, FACTOR_POWERS);
        }
        baseKnown = false;
    }

    public void move(long by) {
        long number = number(by);
        for (int i = 0; i <= order; i++) {
            shift(factors[i], number);
        }
        baseKnown = false;
    }

    public void clear() {
        for (int i = 0; i <= order; i++) {
            Arrays.fill(factors[i], 0);
        }
        Arrays.fill(atHand, 0);
        baseKnown = false;
    }

    private void needFactorPower(int i, int power) {
        if (i < 0 || i > order || power < 0 || power >= FACTOR_POWERS) {
            throw new IndexOutOfBoundsException("no such factor or power in it");
        }
    }

    private void needHandPower(int power) {
        if (power < 0 || power >= HAND_POWERS) {
            throw new IndexOutOfBoundsException("no such power");
        }
    }

    private void needMember(int k) {
        knowBase();
        if (k < 0 || k >= base.size()) {
            throw new IndexOutOfBoundsException("no such member of the base");
        }
    }

    private void findPlaces() {
        if (isZero(factors[order])) {
            throw new IllegalStateException("the highest factor is 0");
        }
        roots.find(factors[order]);
    }

    /** Leaves the factors at a, or as they are without end, in the other ones; answers the LEVEL. */
    private int goTo(boolean end, long a) {
        if (allZero()) {
            throw new IllegalStateException("all factors are 0");
        }
        shiftToOther(end ? 0 : number(a));
        return end ? greatestGap() : leastGap();
    }

    private boolean allZero() {
        for (int i = 0; i <= order; i++) {
            if (!isZero(factors[i])) {
                return false;
            }
        }
        return true;
    }

    private int leastGap() {
        int gap = -order;
        while (gap < FACTOR_POWERS - 1 && !isGap(gap)) {
            gap++;
        }
        return gap;
    }

    private int greatestGap() {
        int gap = FACTOR_POWERS - 1;
        while (gap > -order && !isGap(gap)) {
            gap--;
        }
        return gap;
    }

    private boolean isGap(int gap) {
        for (int i = 0; i <= order; i++) {
            if (otherAt(i, gap + i) != 0) {
                return true;
            }
        }
        return false;
    }

    private long otherAt(int i, int power) {
        return power < 0 || power >= FACTOR_POWERS ? 0 : other[i][power];
    }

    /** s (s - 1) is s^2 - s, and s (s - 1) (s - 2) is s^3 - 3 s^2 + 2 s. */
    private void fillIndicial(int reached) {
        long first = otherAt(1, reached + 1);
        long second = otherAt(2, reached + 2);
        long third = otherAt(3, reached + 3);
        indicial[0] = otherAt(0, reached);
        indicial[1] = number(first - second + 2 * third);
        indicial[2] = number(second - 3 * third);
        indicial[3] = third;
    }

    private void shiftToOther(long by) {
        for (int i = 0; i <= order; i++) {
            System.arraycopy(factors[i], 0, other[i], 0, FACTOR_POWERS);
            shift(other[i], by);
        }
    }

    /** What an equation with these factors makes of x to the n, at the power n + gap. */
    private long share(long[][] equation, int n, int gap) {
        long sum = 0;
        long slope = 1;
        for (int i = 0; i <= order; i++) {
            int power = gap + i;
            if (power >= 0 && power < FACTOR_POWERS) {
                sum += equation[i][power] * slope;
            }
            slope *= n - i;
        }
        return number(sum);
    }

    private long madeAt(int power) {
        long sum = 0;
        for (int n = 0; n < HAND_POWERS; n++) {
            if (atHand[n] != 0) {
                sum += atHand[n] * share(factors, n, power - n);
            }
        }
        return number(sum);
    }

    /** The number at next with which 0 is made at next - order; none behind it matters there. */
    private long nextTerm(int next) {
        int power = next - order;
        long sum = 0;
        for (int n = Math.max(0, power - FACTOR_POWERS + 1); n < next; n++) {
            sum += terms[n] * share(other, n, power - n);
        }
        return number(-number(sum) * inverse(share(other, next, -order)));
    }

    private long adjointAt(int j, int power) {
        long sum = 0;
        for (int i = j; i <= order; i++) {
            long part = CHOICES[4 * i + j] * slopeAt(factors[i], i - j, power);
            sum += i % 2 == 0 ? part : -part;
        }
        return number(sum);
    }

    /** The number at a power in the times-th slope of a factor. */
    private static long slopeAt(long[] factor, int times, int power) {
        if (power + times >= FACTOR_POWERS) {
            return 0;
        }
        long number = factor[power + times];
        for (int k = 1; k <= times; k++) {
            number *= power + k;
        }
        return number;
    }

    private void knowBase() {
        if (baseKnown) {
            return;
        }
        for (int power = 0; power < MADE_POWERS; power++) {
            for (int n = 0; n < HAND_POWERS; n++) {
                base.enter(power, n, share(factors, n, power - n));
            }
        }
        base.solve();
        baseKnown = true;
    }

    private static long number(long v) {
        long rest = v % MODULUS;
        return rest < 0 ? rest + MODULUS : rest;
    }

    /** By Fermat a number's inverse is its power MODULUS - 2; 0, which has none, gives 0. */
    private static long inverse(long number) {
        long power = 1;
        for (int bit = MODULUS_BITS - 1; bit >= 0; bit--) {
            power = power * power % MODULUS;
            if (((MODULUS - 2) >> bit & 1) == 1) {
                power = power * number % MODULUS;
            }
        }
        return power;
    }

    private static boolean isZero(long[] polynomial) {
        return degree(polynomial) < 0;
    }

    /** The highest power whose number isn't 0; -1 if there is none. */
    private static int degree(long[] polynomial) {
        int power = polynomial.length - 1;
        while (power >= 0 && polynomial[power] == 0) {
            power--;
        }
        return power;
    }

    /** Puts x + by in place of x, by dividing by x - by again and again. */
    private static void shift(long[] factor, long by) {
        for (int done = 0; done < FACTOR_POWERS - 1; done++) {
            for (int power = FACTOR_POWERS - 2; power >= done; power--) {
                factor[power] = (factor[power] + by * factor[power + 1]) % MODULUS;
            }
        }
    }

    /** The NUMBERS at which a polynomial is 0, rising, found without a look at all 32003. */
    private static final class Roots {
        private static final int HALF = (MODULUS - 1) / 2;

        private final long[] found = new long[FACTOR_POWERS - 1];
        private int count = 0;
        private final long[] whole = new long[FACTOR_POWERS];
        private final long[] part = new long[FACTOR_POWERS];
        private final long[] raised = new long[FACTOR_POWERS];
        private final long[] square = new long[2 * FACTOR_POWERS - 2];
        private final long[] one = new long[FACTOR_POWERS];
        private final long[] two = new long[FACTOR_POWERS];

        int howMany() {
            return count;
        }

        int orNone(int k) {
            return k < 0 || k >= count ? -1 : (int) found[k];
        }

        void find(long[] polynomial) {
            count = 0;
            if (degree(polynomial) < 1) {
                return;
            }
            copy(polynomial, whole);
            makeMonic(whole);
            keepRootsOnce();
            for (int left = degree(whole); left > 0; left--) {
                long root = oneRoot();
                insert(root);
                divideOut(root);
            }
        }

        /** x^MODULUS - x has each NUMBER as a root once, so both have all roots in common, once. */
        private void keepRootsOnce() {
            raise(0, MODULUS, whole);
            raised[1] = number(raised[1] - 1);
            copy(commonWithRaised(whole), whole);
        }

        /**
         * (x + by)^HALF is 1 at those roots s for which s + by is a square and not 0. For any two
         * roots some by tells them apart, so the part comes down to one root before all are used.
         */
        private long oneRoot() {
            copy(whole, part);
            for (int by = 0; by < MODULUS && degree(part) > 1; by++) {
                raise(by, HALF, part);
                raised[0] = number(raised[0] - 1);
                long[] common = commonWithRaised(part);
                if (degree(common) > 0) {
                    copy(common, part);
                }
            }
            return number(-part[0]);
        }

        private void insert(long root) {
            if (count >= found.length) {
                return;
            }
            int k = count;
            while (k > 0 && found[k - 1] > root) {
                found[k] = found[k - 1];
                k--;
            }
            found[k] = root;
            count++;
        }

        private void divideOut(long root) {
            long carried = 0;
            for (int power = FACTOR_POWERS - 1; power >= 0; power--) {
                long next = (whole[power] + carried * root) % MODULUS;
                whole[power] = carried;
                carried = next;
            }
        }

        /** Leaves (x + by)^power, less multiples of the monic polynomial, in the row for it. */
        private void raise(long by, int power, long[] monic) {
            int size = degree(monic);
            Arrays.fill(raised, 0);
            raised[0] = 1;
            for (int bit = MODULUS_BITS - 1; bit >= 0; bit--) {
                squareRaised(size);
                if ((power >> bit & 1) == 1) {
                    timesLine(by);
                }
                takeMultiples(square, monic);
                copy(square, raised);
            }
        }

        /** Only the powers below size have numbers: looking at the others would cost for nothing. */
        private void squareRaised(int size) {
            Arrays.fill(square, 0);
            for (int i = 0; i < size; i++) {
                for (int j = 0; j < size; j++) {
                    square[i + j] = (square[i + j] + raised[i] * raised[j]) % MODULUS;
                }
            }
        }

        private void timesLine(long by) {
            for (int power = square.length - 1; power > 0; power--) {
                square[power] = (square[power] * by + square[power - 1]) % MODULUS;
            }
            square[0] = square[0] * by % MODULUS;
        }

        /** The monic polynomial of the highest degree of which both are multiples, by Euclid. */
        private long[] commonWithRaised(long[] monic) {
            copy(monic, one);
            copy(raised, two);
            long[] greater = one;
            long[] lesser = two;
            for (int step = 0; step < FACTOR_POWERS && !isZero(lesser); step++) {
                makeMonic(lesser);
                takeMultiples(greater, lesser);
                long[] kept = greater;
                greater = lesser;
                lesser = kept;
            }
            return greater;
        }

        private static void takeMultiples(long[] from, long[] monic) {
            int degree = degree(monic);
            if (degree < 0) {
                return;
            }
            for (int power = degree(from); power >= degree; power--) {
                long times = from[power];
                for (int k = 0; k <= degree; k++) {
                    int below = power - degree + k;
                    from[below] = number(from[below] - times * monic[k]);
                }
            }
        }

        private static void makeMonic(long[] polynomial) {
            int degree = degree(polynomial);
            if (degree < 0) {
                return;
            }
            long scale = inverse(polynomial[degree]);
            for (int power = 0; power <= degree; power++) {
                polynomial[power] = polynomial[power] * scale % MODULUS;
            }
        }

        private static void copy(long[] from, long[] to) {
            System.arraycopy(from, 0, to, 0, FACTOR_POWERS);
        }
    }

    /** The BASE of all polynomials, powers 0 .. 12, that solve linear equations, one a row. */
    private static final class Base {
        private static final int NO_ROW = -1;

        private final long[][] rows = new long[MADE_POWERS][HAND_POWERS];
        /** The row in which a power leads. */
        private final int[] leads = new int[HAND_POWERS];
        private final long[][] members = new long[HAND_POWERS][HAND_POWERS];
        private int count = 0;

        int size() {
            return count;
        }

        long[] member(int k) {
            return members[k];
        }

        void enter(int row, int power, long number) {
            rows[row][power] = number;
        }

        void solve() {
            reduceRows();
            count = 0;
            for (int power = HAND_POWERS - 1; power >= 0; power--) {
                if (leads[power] == NO_ROW) {
                    fillMember(members[count], power);
                    count++;
                }
            }
        }

        /**
         * Lower powers lead first, so that a power without a row of its own is the highest of a
         * solution in which every other power has one: that is what the BASE asks for.
         */
        private void reduceRows() {
            int used = 0;
            for (int power = 0; power < HAND_POWERS; power++) {
                int row = rowWith(power, used);
                if (row == NO_ROW) {
                    leads[power] = NO_ROW;
                } else {
                    swap(row, used);
                    scaleRow(used, power);
                    clearColumn(used, power);
                    leads[power] = used;
                    used++;
                }
            }
        }

        private int rowWith(int power, int from) {
            for (int row = from; row < MADE_POWERS; row++) {
                if (rows[row][power] != 0) {
                    return row;
                }
            }
            return NO_ROW;
        }

        private void swap(int row, int with) {
            for (int k = 0; k < HAND_POWERS; k++) {
                long kept = rows[row][k];
                rows[row][k] = rows[with][k];
                rows[with][k] = kept;
            }
        }

        private void scaleRow(int row, int power) {
            long scale = inverse(rows[row][power]);
            for (int k = 0; k < HAND_POWERS; k++) {
                rows[row][k] = rows[row][k] * scale % MODULUS;
            }
        }

        private void clearColumn(int lead, int power) {
            for (int row = 0; row < MADE_POWERS; row++) {
                long times = rows[row][power];
                if (row != lead && times != 0) {
                    for (int k = 0; k < HAND_POWERS; k++) {
                        rows[row][k] = number(rows[row][k] - times * rows[lead][k]);
                    }
                }
            }
        }

        private void fillMember(long[] member, int highest) {
            Arrays.fill(member, 0);
            member[highest] = 1;
            for (int power = 0; power < highest; power++) {
                if (leads[power] != NO_ROW) {
                    member[power] = number(-rows[leads[power]][highest]);
                }
            }
        }
    }
}
