import java.math.BigInteger;

/** "NUMBERS are modulo 32003, 0 .. 32002": every call that is given a long, with longs of every kind. */
public final class NumbersTest {
    private static final BigInteger MODULUS = BigInteger.valueOf(32003);
    private static final long LAST_MULTIPLE = Long.MAX_VALUE / 32003 * 32003;
    private static final long[] LONGS = {
        0, 1, 2, 16001, 16002, 32001, 32002, 32003, 32004, 64005, 64006, 64007,
        -1, -2, -16001, -16002, -32002, -32003, -32004, -64006, -64007,
        Integer.MAX_VALUE, Integer.MIN_VALUE, 1L + Integer.MAX_VALUE, -1L + Integer.MIN_VALUE,
        1L << 32, -(1L << 32), (1L << 53) + 1, 1L << 62, -(1L << 62),
        LAST_MULTIPLE, LAST_MULTIPLE - 1, LAST_MULTIPLE + 1, -LAST_MULTIPLE, -LAST_MULTIPLE - 1, -LAST_MULTIPLE + 1,
        Long.MAX_VALUE, Long.MAX_VALUE - 1, Long.MIN_VALUE, Long.MIN_VALUE + 1
    };
    private final Check check = new Check();

    public static void main(String[] args) {
        NumbersTest test = new NumbersTest();
        for (long v : LONGS) {
            int n = BigInteger.valueOf(v).mod(MODULUS).intValue();
            test.put(v, n);
            test.hand(v, n);
            test.level(v, n);
            test.regular(v, n);
            test.exponent(v, n);
            test.withoutEnd(v);
            test.seriesAt(v, n);
            test.seriesFrom(v, n);
            test.move(v, n);
        }
        test.check.end();
    }

    private void put(long v, int n) {
        for (int order = 1; order <= 3; order++) {
            RationalOdes x = new RationalOdes(order);
            for (int i = 0; i <= order; i++) {
                for (int power = 0; power <= 4; power++) {
                    int factor = i;
                    int at = power;
                    String where = i + ", " + power + ", " + v;
                    check.due("2: put over 0, " + where, n != 0, () -> x.put(factor, at, v));
                    check.due("3: at " + where, n, () -> x.at(factor, at));
                    check.due("2: put the same again, " + where, false, () -> x.put(factor, at, v));
                    check.due("2: put its number, " + where, false, () -> x.put(factor, at, n));
                    check.due("2: put the next number, " + where, true, () -> x.put(factor, at, n + 1));
                    check.due("2: put over another, " + where, true, () -> x.put(factor, at, v));
                }
            }
        }
    }

    private void hand(long v, int n) {
        RationalOdes x = new RationalOdes(1);
        x.put(0, 0, 1);
        for (int power = 0; power <= 12; power++) {
            int at = power;
            x.hand(power, v);
            check.due("4: hand(" + power + ", " + v + ")", n, () -> x.made(at));
            check.due("13: " + v + " at hand", n == 0, () -> x.solves());
            x.hand(power, 0);
        }
    }

    /** (x - n)^2 y'. */
    private void level(long v, int n) {
        RationalOdes x = new RationalOdes(1);
        Equations.factor(x, 1, (long) n * n, -2L * n, 1);
        check.due("8: level at " + v, 1, () -> x.level(false, v));
        check.due("8: level beside " + v, -1, () -> x.level(false, n + 1));
    }

    /** (x - n)^2 y' + y. */
    private void regular(long v, int n) {
        RationalOdes x = new RationalOdes(1);
        Equations.factor(x, 1, (long) n * n, -2L * n, 1);
        x.put(0, 0, 1);
        check.due("9: regular at " + v, false, () -> x.regular(false, v));
        check.due("9: regular beside " + v, true, () -> x.regular(false, n + 1));
    }

    /** (x - n) y' - 5 y. */
    private void exponent(long v, int n) {
        RationalOdes x = new RationalOdes(1);
        Equations.factor(x, 1, -n, 1);
        x.put(0, 0, -5);
        check.due("10: exponent at " + v, 5, () -> x.exponent(false, v, 0));
        check.due("10: exponent beside " + v, 0, () -> x.exponent(false, n + 1, 0));
    }

    /** "(a 0 there)": the number makes no difference. */
    private void withoutEnd(long v) {
        RationalOdes x = Equations.legendre(2);
        check.due("8: level without end, " + v, 0, () -> x.level(true, v));
        check.due("9: regular without end, " + v, true, () -> x.regular(true, v));
        check.due("10: exponent without end, " + v, 2, () -> x.exponent(true, v, 0));
        check.due("10: the other exponent without end, " + v, 32000, () -> x.exponent(true, v, 1));
    }

    /** (x - n) y' + y has a place there; (x - n + 1) y' + y has none, and is (t + 1) y' + y there. */
    private void seriesAt(long v, int n) {
        RationalOdes x = new RationalOdes(1);
        Equations.factor(x, 1, -n, 1);
        x.put(0, 0, 1);
        check.arithmetic("15: series at " + v, () -> x.series(v, 1, 0, 0, 1));
        x.put(1, 0, 1 - n);
        check.due("15: series beside the place, at " + v, 32002, () -> x.series(v, 1, 0, 0, 1));
    }

    private void seriesFrom(long v, int n) {
        RationalOdes first = new RationalOdes(1);
        Equations.factor(first, 1, 1);
        Equations.factor(first, 0, -1);
        check.due("15: c is " + v, n, () -> first.series(0, v, 5, 6, 0));
        check.due("15: y' = y from " + v, n, () -> first.series(0, v, 5, 6, 1));
        RationalOdes second = new RationalOdes(2);
        Equations.factor(second, 2, 1);
        Equations.factor(second, 1, -2);
        check.due("15: d is " + v, n, () -> second.series(0, 5, v, 6, 1));
        check.due("15: y'' = 2 y' from " + v, n, () -> second.series(0, 5, v, 6, 2));
        RationalOdes third = new RationalOdes(3);
        Equations.factor(third, 3, 1);
        Equations.factor(third, 2, -3);
        check.due("15: e is " + v, n, () -> third.series(0, 5, 6, v, 2));
        check.due("15: y''' = 3 y'' from " + v, n, () -> third.series(0, 5, 6, v, 3));
    }

    private void move(long v, int n) {
        RationalOdes x = new RationalOdes(1);
        Equations.factor(x, 1, 0, 1);
        x.move(v);
        check.due("17: x, moved by " + v, n, () -> x.at(1, 0));
        check.due("17: its place, moved by " + v, (32003 - n) % 32003, () -> x.place(0));
        x.move(-n);
        check.due("17: and back from " + v, 0, () -> x.at(1, 0));
    }
}
