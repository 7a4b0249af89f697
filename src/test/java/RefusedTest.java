import java.util.function.Supplier;

/**
 * Calls that the document refuses, each in every state that refuses it: the exception that is due,
 * the first one behind "throws" where several are, and "nothing changes".
 */
public final class RefusedTest {
    private static final int LEAST = Integer.MIN_VALUE;
    private static final int MOST = Integer.MAX_VALUE;
    private static final String INDEX = "throws.IndexOutOfBoundsException";
    private static final String STATE = "throws.IllegalStateException";
    private static final String ARITHMETIC = "throws.ArithmeticException";
    /** For how many places there are. */
    private static final int HIGHEST_IS_0 = -1;

    private final Check check = new Check();
    private String name;
    private Supplier<RationalOdes> make;
    private int order;
    private int places;
    private int members;
    private String unharmed;

    private interface On {
        Object call(RationalOdes x);
    }

    public static void main(String[] args) {
        RefusedTest test = new RefusedTest();
        for (int r = 1; r <= 3; r++) {
            int order = r;
            test.in("a new object of order " + r, () -> new RationalOdes(order), r, HIGHEST_IS_0, 13);
            test.allZero();
            test.in("all factors 0, a full hand, order " + r, () -> fullHand(new RationalOdes(order)),
                r, HIGHEST_IS_0, 13);
            test.allZero();
            test.in("the highest 0, order " + r, () -> highestIs0(order), r, HIGHEST_IS_0, 0);
            test.in("no place, no answer, order " + r, () -> noPlace(order), r, 0, 0);
            test.in("four places, order " + r, () -> fourPlaces(order), r, 4, r);
            test.atPlaces(1, 2, 3, 4);
        }
        test.in("Legendre", () -> fullHand(Equations.legendre(2)), 2, 2, 1);
        test.atPlaces(1, 32002);
        test.in("Euler", () -> fullHand(Equations.euler()), 3, 1, 2);
        test.atPlaces(0);
        test.in("after clear", RefusedTest::cleared, 2, HIGHEST_IS_0, 13);
        test.allZero();
        test.check.end();
    }

    private static RationalOdes fullHand(RationalOdes x) {
        Equations.hand(x, 11, 12, 13, 14, 15, 16, 17, 18, 19, 20, 21, 22, 23);
        return x;
    }

    private static RationalOdes highestIs0(int order) {
        RationalOdes x = fullHand(new RationalOdes(order));
        Equations.factor(x, 0, 5, 0, 0, 0, 7);
        return x;
    }

    private static RationalOdes noPlace(int order) {
        RationalOdes x = fullHand(new RationalOdes(order));
        Equations.factor(x, order, 9);
        Equations.factor(x, 0, 1);
        return x;
    }

    /** The highest factor alone: its answers are the powers below the order. */
    private static RationalOdes fourPlaces(int order) {
        RationalOdes x = fullHand(new RationalOdes(order));
        Equations.factor(x, order, 24, -50, 35, -10, 1);
        return x;
    }

    private static RationalOdes cleared() {
        RationalOdes x = fullHand(Equations.legendre(2));
        x.answers();
        x.clear();
        return x;
    }

    /** What is refused in each state that has so many places and members. */
    private void in(String name, Supplier<RationalOdes> make, int order, int places, int members) {
        this.name = name;
        this.make = make;
        this.order = order;
        this.places = places;
        this.members = members;
        unharmed = Seen.all(make.get(), order);
        check.due(name + ": answers()", members, () -> make.get().answers());
        putAndAt();
        hand();
        places();
        answerAndTake();
        series();
    }

    private void refused(String call, String due, On on) {
        RationalOdes x = make.get();
        check.due(name + ": " + call, due, () -> on.call(x));
        check.due(name + ": nothing changes by " + call, unharmed, () -> Seen.all(x, order));
    }

    private static Object done(Runnable call) {
        call.run();
        return "done";
    }

    /** Promises 2 and 3: no such FACTOR, power. */
    private void putAndAt() {
        int[] noFactor = {LEAST, -1, order + 1, 4, MOST};
        int[] noPower = {LEAST, -1, 5, 6, MOST};
        for (int i : noFactor) {
            for (int power = 0; power <= 4; power += 2) {
                putAndAt(i, power);
            }
        }
        for (int power : noPower) {
            for (int i = 0; i <= order; i++) {
                putAndAt(i, power);
            }
        }
        putAndAt(-1, -1);
        putAndAt(order + 1, 5);
    }

    private void putAndAt(int i, int power) {
        refused("put(" + i + ", " + power + ", 77)", INDEX, x -> x.put(i, power, 77));
        refused("put(" + i + ", " + power + ", 0)", INDEX, x -> x.put(i, power, 0));
        refused("at(" + i + ", " + power + ")", INDEX, x -> x.at(i, power));
    }

    /** Promise 4: no such power. */
    private void hand() {
        int[] noPower = {LEAST, -1, 13, 14, 16, 30, MOST};
        for (int power : noPower) {
            refused("hand(" + power + ", 77)", INDEX, x -> done(() -> x.hand(power, 77)));
        }
    }

    /** Promises 6 and 7: p r is 0; there is none such; of both the first. */
    private void places() {
        if (places == HIGHEST_IS_0) {
            refused("places()", STATE, x -> x.places());
            int[] any = {LEAST, -1, 0, 1, 4, MOST};
            for (int k : any) {
                refused("place(" + k + ")", STATE, x -> x.place(k));
            }
            return;
        }
        int[] none = {LEAST, -1, places, places + 1, 5, MOST};
        for (int k : none) {
            refused("place(" + k + ")", INDEX, x -> x.place(k));
        }
    }

    /** Promises 12 and 14: no such member, or power (0 .. 12). */
    private void answerAndTake() {
        int[] noMember = {LEAST, -1, members, members + 1, 14, MOST};
        int[] noPower = {LEAST, -1, 13, 14, MOST};
        for (int k : noMember) {
            refused("take(" + k + ")", INDEX, x -> done(() -> x.take(k)));
            refused("answer(" + k + ", 0)", INDEX, x -> x.answer(k, 0));
            refused("answer(" + k + ", 12)", INDEX, x -> x.answer(k, 12));
            refused("answer(" + k + ", 13)", INDEX, x -> x.answer(k, 13));
        }
        for (int power : noPower) {
            refused("answer(0, " + power + ")", INDEX, x -> x.answer(0, power));
        }
    }

    /** Promise 15: the power isn't 0 .. 30; p r is 0; of both the first. */
    private void series() {
        int[] noPower = {LEAST, -1, 31, 32, MOST};
        for (int power : noPower) {
            refused("series(7, .., " + power + ")", INDEX, x -> x.series(7, 1, 2, 3, power));
        }
        if (places == HIGHEST_IS_0) {
            for (int power = 0; power <= 30; power += 3) {
                int at = power;
                refused("series(7, .., " + power + ")", ARITHMETIC, x -> x.series(7, 1, 2, 3, at));
            }
        }
    }

    /** Promise 15: the number is a PLACE; the power isn't 0 .. 30 either. */
    private void atPlaces(long... numbers) {
        for (long a : numbers) {
            int[] given = {0, 1, 2, 3, 29, 30};
            for (int power : given) {
                refused("series(" + a + ", .., " + power + ")", ARITHMETIC, x -> x.series(a, 1, 2, 3, power));
            }
            refused("series(" + (a - 32003) + ", .., 4)", ARITHMETIC, x -> x.series(a - 32003, 1, 2, 3, 4));
            refused("series(" + a + ", .., -1)", INDEX, x -> x.series(a, 1, 2, 3, -1));
            refused("series(" + a + ", .., 31)", INDEX, x -> x.series(a, 1, 2, 3, 31));
        }
    }

    /** Promises 8, 9 and 10: all FACTORS are 0. */
    private void allZero() {
        long[] numbers = {0, 1, 32002, Long.MIN_VALUE, Long.MAX_VALUE};
        for (int e = 0; e < 2; e++) {
            boolean end = e == 1;
            for (long a : numbers) {
                refused("level(" + end + ", " + a + ")", STATE, x -> x.level(end, a));
                refused("regular(" + end + ", " + a + ")", STATE, x -> x.regular(end, a));
                int[] any = {LEAST, -1, 0, 3, MOST};
                for (int k : any) {
                    refused("exponent(" + end + ", " + a + ", " + k + ")", STATE, x -> x.exponent(end, a, k));
                }
            }
        }
    }
}
