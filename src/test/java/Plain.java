/**
 * The document's terms written down as they stand, with no thought of speed: every NUMBER is tried
 * as a root, and every product of polynomials is multiplied out.
 */
final class Plain {
    static final long P = 32003;
    final int order;
    private long[][] factors;
    private long[] atHand = new long[13];

    Plain(int r) {
        order = r < 1 ? 1 : r > 3 ? 3 : r;
        factors = new long[order + 1][5];
    }

    static long mod(long v) {
        return ((v % P) + P) % P;
    }

    static long[] times(long[] f, long[] g) {
        long[] product = new long[f.length + g.length - 1];
        for (int i = 0; i < f.length; i++) {
            for (int j = 0; j < g.length; j++) {
                product[i + j] = mod(product[i + j] + f[i] * g[j]);
            }
        }
        return product;
    }

    static void add(long[] to, long[] f, long scale) {
        for (int k = 0; k < f.length; k++) {
            if (f[k] != 0) {
                to[k] = mod(to[k] + scale * f[k]);
            }
        }
    }

    static long[] slope(long[] f) {
        long[] s = new long[f.length];
        for (int k = 1; k < f.length; k++) {
            s[k - 1] = mod(k * f[k]);
        }
        return s;
    }

    static long[] slope(long[] f, int n) {
        long[] s = f.clone();
        for (int k = 0; k < n; k++) {
            s = slope(s);
        }
        return s;
    }

    /** f with x + a in place of x. */
    static long[] moved(long[] f, long a) {
        long[] sum = new long[f.length];
        long[] power = {1};
        for (int k = 0; k < f.length; k++) {
            add(sum, power, f[k]);
            power = times(power, new long[] {mod(a), 1});
        }
        return sum;
    }

    long[][] moved(long a) {
        long[][] c = new long[order + 1][];
        for (int i = 0; i <= order; i++) {
            c[i] = moved(factors[i], a);
        }
        return c;
    }

    static long[] makes(long[][] equation, long[] y) {
        long[] sum = new long[y.length + 4];
        for (int i = 0; i < equation.length; i++) {
            add(sum, times(equation[i], slope(y, i)), 1);
        }
        return sum;
    }

    static long value(long[] f, long x) {
        long v = 0;
        for (int k = f.length - 1; k >= 0; k--) {
            v = (v * x + f[k]) % P;
        }
        return v;
    }

    static boolean zero(long[] f) {
        for (long v : f) {
            if (v != 0) {
                return false;
            }
        }
        return true;
    }

    static long power(long b, long e) {
        return e == 0 ? 1 : e % 2 == 0 ? power(b * b % P, e / 2) : b * power(b, e - 1) % P;
    }

    private void index(boolean good) {
        if (!good) {
            throw new IndexOutOfBoundsException();
        }
    }

    private void state(boolean good) {
        if (!good) {
            throw new IllegalStateException();
        }
    }

    boolean put(int i, int power, long v) {
        index(i >= 0 && i <= order && power >= 0 && power <= 4);
        boolean another = factors[i][power] != mod(v);
        factors[i][power] = mod(v);
        return another;
    }

    int at(int i, int power) {
        index(i >= 0 && i <= order && power >= 0 && power <= 4);
        return (int) factors[i][power];
    }

    void hand(int power, long v) {
        index(power >= 0 && power <= 12);
        atHand[power] = mod(v);
    }

    int made(int power) {
        long[] all = makes(factors, atHand);
        return power < 0 || power >= all.length ? 0 : (int) all[power];
    }

    private int[] placeList() {
        state(!zero(factors[order]));
        int[] list = new int[0];
        for (int s = 0; s < P; s++) {
            if (value(factors[order], s) == 0) {
                list = append(list, s);
            }
        }
        return list;
    }

    private static int[] append(int[] list, int s) {
        int[] longer = java.util.Arrays.copyOf(list, list.length + 1);
        longer[list.length] = s;
        return longer;
    }

    int places() {
        return placeList().length;
    }

    int place(int k) {
        int[] list = placeList();
        index(k >= 0 && k < list.length);
        return list[k];
    }

    int level(boolean end, long a) {
        long[][] c = moved(end ? 0 : a);
        Integer least = null;
        Integer greatest = null;
        for (int i = 0; i <= order; i++) {
            for (int j = 0; j <= 4; j++) {
                if (c[i][j] != 0) {
                    least = least == null ? j - i : Math.min(least, j - i);
                    greatest = greatest == null ? j - i : Math.max(greatest, j - i);
                }
            }
        }
        state(least != null);
        return end ? greatest : least;
    }

    private static long entry(long[][] c, int i, int j) {
        return j < 0 || j > 4 ? 0 : c[i][j];
    }

    boolean regular(boolean end, long a) {
        int level = level(end, a);
        return entry(moved(end ? 0 : a), order, level + order) != 0;
    }

    int exponent(boolean end, long a, int k) {
        int level = level(end, a);
        long[][] c = moved(end ? 0 : a);
        int[] list = new int[0];
        for (int s = 0; s < P; s++) {
            long sum = 0;
            long product = 1;
            for (int i = 0; i <= order; i++) {
                sum += entry(c, i, level + i) * product;
                product = mod(product * (s - i));
            }
            if (sum % P == 0) {
                list = append(list, s);
            }
        }
        return k < 0 || k >= list.length ? -1 : list[k];
    }

    /** Goes up through the powers and notes each whose image is a sum of earlier images. */
    private long[][] baseList() {
        long[][] images = new long[0][];
        long[][] sources = new long[0][];
        long[][] base = new long[0][];
        for (int n = 0; n <= 12; n++) {
            long[] source = new long[13];
            source[n] = 1;
            long[] image = makes(factors, source);
            for (int m = 0; m < images.length; m++) {
                int lead = lead(images[m]);
                long scale = mod(-image[lead] * power(images[m][lead], P - 2));
                add(image, images[m], scale);
                add(source, sources[m], scale);
            }
            if (zero(image)) {
                for (long[] lower : base) {
                    add(source, lower, mod(-source[highest(lower)]));
                }
                long[][] longer = new long[base.length + 1][];
                longer[0] = source;
                System.arraycopy(base, 0, longer, 1, base.length);
                base = longer;
            } else {
                images = java.util.Arrays.copyOf(images, images.length + 1);
                sources = java.util.Arrays.copyOf(sources, sources.length + 1);
                images[images.length - 1] = image;
                sources[sources.length - 1] = source;
            }
        }
        return base;
    }

    private static int lead(long[] f) {
        int k = 0;
        while (f[k] == 0) {
            k++;
        }
        return k;
    }

    private static int highest(long[] f) {
        int k = f.length - 1;
        while (f[k] == 0) {
            k--;
        }
        return k;
    }

    int answers() {
        return baseList().length;
    }

    int answer(int k, int power) {
        long[][] base = baseList();
        index(k >= 0 && k < base.length && power >= 0 && power <= 12);
        return (int) base[k][power];
    }

    boolean solves() {
        return zero(makes(factors, atHand));
    }

    void take(int k) {
        long[][] base = baseList();
        index(k >= 0 && k < base.length);
        atHand = base[k].clone();
    }

    /** Tries 0 and then 1 as each next number, and sees from both which one makes 0. */
    int series(long a, long c, long d, long e, int power) {
        index(power >= 0 && power <= 30);
        if (value(factors[order], mod(a)) == 0) {
            throw new ArithmeticException();
        }
        long[][] equation = moved(a);
        long[] given = {mod(c), mod(d), mod(e)};
        long[] y = new long[31];
        System.arraycopy(given, 0, y, 0, order);
        for (int n = order; n <= 30; n++) {
            long without = makes(equation, y)[n - order];
            y[n] = 1;
            long with = makes(equation, y)[n - order];
            y[n] = mod(-without * power(mod(with - without), P - 2));
        }
        return (int) y[power];
    }

    void turn() {
        long[][] adjoint = new long[order + 1][5];
        for (int j = 0; j <= order; j++) {
            for (int i = j; i <= order; i++) {
                long scale = choose(i, j) * (i % 2 == 0 ? 1 : -1);
                add(adjoint[j], slope(factors[i], i - j), scale);
            }
        }
        factors = adjoint;
    }

    private static long choose(int i, int j) {
        return j == 0 || j == i ? 1 : choose(i - 1, j - 1) + choose(i - 1, j);
    }

    void move(long by) {
        factors = moved(by);
    }

    void clear() {
        factors = new long[order + 1][5];
        atHand = new long[13];
    }
}
