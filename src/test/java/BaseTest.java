import java.util.Random;

/**
 * "Their BASE: as few as can be so that all are sums of multiples of them; of each the highest power
 * has 1, the others have 0 there; the one with the highest power is the first." Equations are made
 * from polynomials that are to solve them, with small numbers, so that a base has something to reduce.
 */
public final class BaseTest {
    /** So many equations keep an object within its 512 calls. */
    private static final int EQUATIONS_AN_OBJECT = 3;
    private static final Random CHANCE = new Random(13);
    private final Check check = new Check();
    private RationalOdes real;
    private Plain plain;
    private String run;

    public static void main(String[] args) {
        BaseTest test = new BaseTest();
        test.lostRows();
        for (int n = 0; n < 3000; n++) {
            int order = 1 + n / EQUATIONS_AN_OBJECT % 3;
            if (n % EQUATIONS_AN_OBJECT == 0) {
                test.real = new RationalOdes(order);
                test.plain = new Plain(order);
            }
            test.run = "equation " + n + ": ";
            test.solvedBy(solutions(order));
        }
        test.check.end();
    }

    /** x (x + 1) y' - x y: x + 1 solves it, and nothing is made at power 0. */
    private void lostRows() {
        RationalOdes x = new RationalOdes(1);
        Equations.factor(x, 1, 0, 1, 1);
        Equations.factor(x, 0, 0, -1);
        check.due("x (x + 1) y' - x y, answers", 1, () -> x.answers());
        int[] want = {1, 1, 0, 0, 0, 0, 0, 0, 0, 0, 0, 0, 0};
        for (int power = 0; power <= 12; power++) {
            int at = power;
            check.due("x (x + 1) y' - x y, power " + power, want[power], () -> x.answer(0, at));
        }
    }

    /** Their degrees are so low that no factor goes beyond power 4. */
    private static long[][] solutions(int order) {
        int[][] degrees = {{4}, {1, 4}, {0, 2, 4}, {3}, {2, 3}, {1, 2, 4}};
        int[] most = degrees[CHANCE.nextInt(2) * 3 + order - 1];
        long[][] all = new long[order][13];
        for (int k = 0; k < order; k++) {
            for (int power = 0; power <= most[k]; power++) {
                all[k][power] = Plain.mod(CHANCE.nextInt(5) - 2);
            }
        }
        return all;
    }

    /** p i is, but for its sign, the determinant of all slopes of the solutions but the i-th ones. */
    private void solvedBy(long[][] solutions) {
        int order = solutions.length;
        long[][] factors = new long[order + 1][];
        int highest = 0;
        for (int i = 0; i <= order; i++) {
            factors[i] = determinant(solutions, order, i);
            highest = Math.max(highest, degree(factors[i]));
        }
        if (highest > 4) {
            return;
        }
        int up = CHANCE.nextInt(5 - highest);
        for (int i = 0; i <= order; i++) {
            for (int power = 0; power <= 4; power++) {
                long number = power < up ? 0 : factors[i][power - up];
                long signed = i % 2 == 0 ? number : Plain.mod(-number);
                plain.put(i, power, signed);
                real.put(i, power, signed);
            }
        }
        compareAll();
        membersAreAsSaid();
        for (long[] y : solutions) {
            Equations.hand(real, y);
            check.due(run + "what it is made from solves it", true, () -> real.solves());
        }
    }

    private static long[] determinant(long[][] y, int order, int without) {
        int[] slopes = new int[order];
        for (int k = 0, i = 0; i <= order; i++) {
            if (i != without) {
                slopes[k++] = i;
            }
        }
        return expand(y, slopes, 0, 0);
    }

    /** Along the rows: one solution each, one slope each that no earlier row has. */
    private static long[] expand(long[][] y, int[] slopes, int row, int used) {
        long[] sum = new long[60];
        if (row == slopes.length) {
            sum[0] = 1;
            return sum;
        }
        int sign = 1;
        for (int k = 0; k < slopes.length; k++) {
            if ((used >> k & 1) == 0) {
                long[] rest = expand(y, slopes, row + 1, used | 1 << k);
                Plain.add(sum, low(Plain.times(low(Plain.slope(y[row], slopes[k])), low(rest))), sign);
                sign = -sign;
            }
        }
        return sum;
    }

    private static long[] low(long[] f) {
        return java.util.Arrays.copyOf(f, Math.max(1, degree(f) + 1));
    }

    private static int degree(long[] f) {
        int k = f.length - 1;
        while (k >= 0 && f[k] == 0) {
            k--;
        }
        return k;
    }

    private void compareAll() {
        int size = plain.answers();
        check.due(run + "answers()", size, () -> real.answers());
        if (size == 13) {
            return;
        }
        for (int k = 0; k < size; k++) {
            for (int power = 0; power <= 12; power++) {
                int member = k;
                int at = power;
                check.due(run + "answer(" + k + ", " + power + ")",
                    plain.answer(k, power), () -> real.answer(member, at));
            }
        }
        check.index(run + "no further member", () -> real.answer(size, 0));
    }

    private void membersAreAsSaid() {
        int size = real.answers();
        if (size == 13) {
            return;
        }
        for (int k = 0, before = 13; k < size; k++) {
            int highest = highest(k);
            int last = before;
            int at = k;
            check.due(run + "member " + k + " is lower than the one before", true, () -> highest < last);
            for (int other = 0; other < size; other++) {
                int member = other;
                check.due(run + "member " + other + " where " + k + " is highest",
                    other == k ? 1 : 0, () -> real.answer(member, highest));
            }
            before = highest;
            real.take(at);
            check.due(run + "member " + k + " solves", true, () -> real.solves());
        }
    }

    private int highest(int k) {
        int power = 12;
        while (power > 0 && real.answer(k, power) == 0) {
            power--;
        }
        return power;
    }
}
