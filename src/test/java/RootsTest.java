import java.util.Random;

/** Places of factors, and exponents, for roots of every pattern: none, some, repeated, side by side. */
public final class RootsTest {
    private static final Random CHANCE = new Random(32003);
    private final Check check = new Check();

    public static void main(String[] args) {
        new RootsTest().all();
    }

    private void all() {
        chosenRoots();
        anyFactors();
        allSquareRoots();
        anyIndicial();
        check.end();
    }

    private static long[] line(long root) {
        return new long[] {Plain.mod(-root), 1};
    }

    private void chosenRoots() {
        long[] pool = {0, 1, 2, 3, 16001, 16002, 31999, 32001, 32002};
        for (int n = 0; n < 9 * 9 * 9 * 9; n += 1 + CHANCE.nextInt(9)) {
            long[] f = {1 + CHANCE.nextInt(32002)};
            for (int k = 0, rest = n; k < 4; k++, rest /= 9) {
                f = Plain.times(f, line(pool[rest % 9]));
            }
            compare(f);
        }
    }

    private void anyFactors() {
        for (int n = 0; n < 1500; n++) {
            long[] f = new long[1 + n % 5];
            for (int k = 0; k < f.length; k++) {
                f[k] = CHANCE.nextInt(32003);
            }
            compare(f);
        }
    }

    /** x^2 - v has two roots, one or none, for half of all v each but for 0. */
    private void allSquareRoots() {
        boolean[] square = new boolean[32003];
        for (long s = 0; s < 32003; s++) {
            square[(int) (s * s % 32003)] = true;
        }
        for (int v = 0; v < 32003; v++) {
            RationalOdes x = new RationalOdes(1);
            Equations.factor(x, 1, -v, 0, 1);
            int want = v == 0 ? 1 : square[v] ? 2 : 0;
            check.due("places of x^2 - " + v, want, () -> x.places());
            if (want == 2) {
                int first = x.place(0);
                int value = v;
                check.due("place(0) of x^2 - " + v, true, () -> first * first % 32003 == value && first < 16002);
                check.due("place(1) of x^2 - " + v, 32003 - first, () -> x.place(1));
            }
        }
    }

    private void compare(long[] f) {
        RationalOdes x = new RationalOdes(2);
        Plain plain = new Plain(2);
        for (int k = 0; k < f.length; k++) {
            x.put(2, k, f[k]);
            plain.put(2, k, f[k]);
        }
        String name = "of " + java.util.Arrays.toString(f);
        check.due("places " + name, Check.told(() -> plain.places()), () -> x.places());
        if (!Plain.zero(f)) {
            int many = plain.places();
            for (int k = -1; k <= many; k++) {
                int at = k;
                check.due("place " + k + " " + name, Check.told(() -> plain.place(at)), () -> x.place(at));
            }
        }
    }

    private void anyIndicial() {
        for (int n = 0; n < 400; n++) {
            RationalOdes x = new RationalOdes(3);
            Plain plain = new Plain(3);
            for (int i = 0; i <= 3; i++) {
                long v = CHANCE.nextInt(5) == 0 ? 0 : CHANCE.nextInt(32003);
                x.put(i, i, v);
                plain.put(i, i, v);
            }
            for (int k = -1; k <= 3; k++) {
                int at = k;
                check.due("exponent " + k + " of run " + n,
                    Check.told(() -> plain.exponent(false, 0, at)), () -> x.exponent(false, 0, at));
            }
        }
    }
}
