import java.util.Random;

/** Long runs of calls, each answer compared with that of the plain model. */
public final class PlainTest {
    private static final Random CHANCE = new Random(20261115);
    private static final long[] EDGES = {
        0, 1, -1, 2, 32002, 32003, 32004, -32003, 16001, 16002,
        Long.MAX_VALUE, Long.MIN_VALUE, Integer.MAX_VALUE, Integer.MIN_VALUE, 1L << 40
    };
    /** What an object answers behind so many calls is free. */
    private static final int MOST_CALLS = 512;
    private final Check check = new Check();
    private RationalOdes real;
    private int calls;
    private Plain plain;
    private String run;

    public static void main(String[] args) {
        new PlainTest().all();
    }

    private void all() {
        for (int n = 0; n < 600; n++) {
            start(n);
            for (int k = 0; k < 60; k++) {
                step();
            }
            seeAll();
        }
        for (int n = 0; n < 48; n++) {
            start(n);
            while (calls < MOST_CALLS) {
                step();
            }
        }
        check.end();
    }

    private void start(int n) {
        int r = n % 9 == 0 ? wild(CHANCE.nextInt(15)) : CHANCE.nextInt(6) - 1;
        run = "run " + n + ", order " + r + ": ";
        real = new RationalOdes(r);
        plain = new Plain(r);
        calls = 0;
        if (n % 4 == 0) {
            fillAll();
        } else if (n % 4 == 1) {
            fillEuler();
        } else if (n % 4 == 2) {
            fillRoots();
        }
    }

    private static int wild(int k) {
        return (int) EDGES[k];
    }

    private long number() {
        int kind = CHANCE.nextInt(4);
        return kind == 0 ? EDGES[CHANCE.nextInt(EDGES.length)]
            : kind == 1 ? CHANCE.nextInt(32003)
            : kind == 2 ? CHANCE.nextInt(13) - 6 : CHANCE.nextLong();
    }

    private int around(int below) {
        int kind = CHANCE.nextInt(12);
        return kind == 0 ? wild(CHANCE.nextInt(15)) : kind == 1 ? below : CHANCE.nextInt(below + 2) - 1;
    }

    private void put(int i, int power, long v) {
        compare("put(" + i + ", " + power + ", " + v + ")",
            () -> plain.put(i, power, v), () -> real.put(i, power, v));
    }

    private void fillAll() {
        for (int i = 0; i <= plain.order; i++) {
            for (int power = 0; power <= 4; power++) {
                put(i, power, number());
            }
        }
    }

    /** Equations with small exponents at 0, most of which have powers of x for answers. */
    private void fillEuler() {
        long[] indicial = {1};
        for (int k = 0; k < plain.order; k++) {
            indicial = Plain.times(indicial, new long[] {-CHANCE.nextInt(14), 1});
        }
        long[] c = new long[plain.order + 1];
        for (int i = 0; i <= plain.order; i++) {
            long rest = Plain.value(indicial, i);
            for (int k = 0; k < i; k++) {
                rest -= c[k] * falling(i, k);
            }
            c[i] = Plain.mod(Plain.mod(rest) * Plain.power(falling(i, i), Plain.P - 2));
            put(i, i, c[i]);
        }
    }

    private static long falling(int s, int times) {
        return times == 0 ? 1 : (s - times + 1) * falling(s, times - 1);
    }

    private void fillRoots() {
        long[] highest = {1};
        int roots = CHANCE.nextInt(5);
        for (int k = 0; k < roots; k++) {
            highest = Plain.times(highest, new long[] {Plain.mod(number()), 1});
        }
        for (int power = 0; power < highest.length; power++) {
            put(plain.order, power, highest[power]);
        }
        put(CHANCE.nextInt(plain.order + 1), CHANCE.nextInt(5), number());
    }

    private void compare(String call, Check.Call want, Check.Call got) {
        calls++;
        check.due(run + call, Check.told(want), got);
    }

    private void step() {
        switch (CHANCE.nextInt(16)) {
            case 0: case 1: put(around(plain.order + 1), around(5), number()); break;
            case 2: change(); break;
            case 3: hand(around(13), number()); break;
            case 4: take(around(4)); break;
            default: ask(CHANCE.nextInt(12)); break;
        }
    }

    private void change() {
        switch (CHANCE.nextInt(9)) {
            case 0: clear(); break;
            case 1: case 2: case 3: case 4: turn(); break;
            default: move(number()); break;
        }
    }

    private void clear() {
        plain.clear();
        real.clear();
        calls++;
    }

    private void turn() {
        plain.turn();
        real.turn();
        calls++;
    }

    private void move(long by) {
        plain.move(by);
        real.move(by);
        calls++;
    }

    private static Object done(Runnable call) {
        call.run();
        return "done";
    }

    private void hand(int power, long v) {
        compare("hand(" + power + ", " + v + ")",
            () -> done(() -> plain.hand(power, v)), () -> done(() -> real.hand(power, v)));
    }

    private void take(int k) {
        compare("take(" + k + ")", () -> done(() -> plain.take(k)), () -> done(() -> real.take(k)));
    }

    private void ask(int which) {
        int k = around(5);
        int power = around(17);
        boolean end = CHANCE.nextBoolean();
        long a = somewhere();
        switch (which) {
            case 0: compare("places()", () -> plain.places(), () -> real.places()); break;
            case 1: compare("place(" + k + ")", () -> plain.place(k), () -> real.place(k)); break;
            case 2: compare("level(" + end + ", " + a + ")",
                () -> plain.level(end, a), () -> real.level(end, a)); break;
            case 3: compare("regular(" + end + ", " + a + ")",
                () -> plain.regular(end, a), () -> real.regular(end, a)); break;
            case 4: case 5: compare("exponent(" + end + ", " + a + ", " + k + ")",
                () -> plain.exponent(end, a, k), () -> real.exponent(end, a, k)); break;
            case 6: compare("answers()", () -> plain.answers(), () -> real.answers()); break;
            case 7: compare("answer(" + k + ", " + power + ")",
                () -> plain.answer(k, power), () -> real.answer(k, power)); break;
            case 8: compare("made(" + power + ")", () -> plain.made(power), () -> real.made(power)); break;
            case 9: compare("solves()", () -> plain.solves(), () -> real.solves()); break;
            case 10: compare("at(" + k + ", " + power + ")",
                () -> plain.at(k, power), () -> real.at(k, power)); break;
            default: series(a); break;
        }
    }

    /** Often a place, for that is where exponents tell something. */
    private long somewhere() {
        String place = Check.told(() -> plain.place(0));
        boolean use = CHANCE.nextInt(3) == 0 && !place.startsWith("throws.");
        return use ? Long.parseLong(place) + 32003L * CHANCE.nextInt(3) : number();
    }

    private void series(long a) {
        long c = number();
        long d = number();
        long e = number();
        int power = around(31);
        compare("series(" + a + ", " + c + ", " + d + ", " + e + ", " + power + ")",
            () -> plain.series(a, c, d, e, power), () -> real.series(a, c, d, e, power));
    }

    /** The whole state at the end of a run. */
    private void seeAll() {
        for (int i = 0; i <= plain.order; i++) {
            for (int power = 0; power <= 4; power++) {
                int factor = i;
                int at = power;
                compare("at(" + i + ", " + power + ")",
                    () -> plain.at(factor, at), () -> real.at(factor, at));
            }
        }
        for (int power = -1; power <= 18; power++) {
            int at = power;
            compare("made(" + power + ")", () -> plain.made(at), () -> real.made(at));
        }
        for (int k = 0; k < plain.answers(); k++) {
            for (int power = 0; power <= 12; power++) {
                int member = k;
                int at = power;
                compare("answer(" + k + ", " + power + ")",
                    () -> plain.answer(member, at), () -> real.answer(member, at));
            }
        }
    }
}
