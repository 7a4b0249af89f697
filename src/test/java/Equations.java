/** Equations that several tests use, with what is known of them. */
final class Equations {
    private Equations() {
    }

    /** Puts numbers at the powers 0, 1, 2 .. of a factor. */
    static void factor(RationalOdes x, int i, long... numbers) {
        for (int power = 0; power < numbers.length; power++) {
            x.put(i, power, numbers[power]);
        }
    }

    static void hand(RationalOdes x, long... numbers) {
        for (int power = 0; power < numbers.length; power++) {
            x.hand(power, numbers[power]);
        }
    }

    /** (1 - x^2) y'' - 2 x y' + n (n + 1) y: the places are 1 and -1. */
    static RationalOdes legendre(int n) {
        RationalOdes x = new RationalOdes(2);
        factor(x, 2, 1, 0, -1);
        factor(x, 1, 0, -2);
        factor(x, 0, n * (n + 1));
        return x;
    }

    /** x^3 y''' + 3 x^2 y'' - 6 x y' + 6 y: the exponents at 0 are 1, 2, -3. */
    static RationalOdes euler() {
        RationalOdes x = new RationalOdes(3);
        factor(x, 3, 0, 0, 0, 1);
        factor(x, 2, 0, 0, 3);
        factor(x, 1, 0, -6);
        factor(x, 0, 6);
        return x;
    }

    /** x y' - n y: x^n alone, and what is a multiple of it, solves it. */
    static RationalOdes power(int n) {
        RationalOdes x = new RationalOdes(1);
        factor(x, 1, 0, 1);
        factor(x, 0, -n);
        return x;
    }

    /** Every number of every factor is another one, and none is 0. */
    static RationalOdes full(int order) {
        RationalOdes x = new RationalOdes(order);
        for (int i = 0; i <= order; i++) {
            for (int power = 0; power <= 4; power++) {
                x.put(i, power, fullAt(i, power));
            }
        }
        return x;
    }

    static int fullAt(int i, int power) {
        return 5 * i + power + 1;
    }
}
