/**
 * The document's boundaries, a method for each sentence that names one, with the sentence above it:
 * what is just inside is answered, what is just outside is not there. What is refused by an exception
 * is in RefusedTest too, with "nothing changes", and NUMBERS of every long are in NumbersTest.
 */
public final class BoundariesTest {
    private static final int LEAST = Integer.MIN_VALUE;
    private static final int MOST = Integer.MAX_VALUE;
    private static final Check CHECK = new Check();

    public static void main(String[] args) {
        orderBelow1();
        orderAbove3();
        orderFrom1To3();
        factorsAre0AtFirst();
        nothingAtHandAtFirst();
        factorsFrom0ToR();
        powersFrom0To4();
        handPowersFrom0To12();
        slopesOfLowPowers();
        makesFrom0ToR();
        madeHasNoSuchPowers();
        highestMadeOfAll();
        placesNone();
        placesAtBothEndsOfNumbers();
        placesOnce();
        placesAreThoseOfTheHighest();
        placesRise();
        placesNeedAHighest();
        placeThatIsNotThere();
        levelLeast();
        levelGreatest();
        levelCountsEveryFactor();
        levelOfAll0();
        regularAtTheEdge();
        exponentsNone();
        exponentsOfEachNumber();
        exponentsAtBothEndsOfNumbers();
        exponentsOnceAndRising();
        exponentThatIsNotThere();
        answersFromNoneToAll();
        answersUpToPower12();
        answersMakeNothingAtAll();
        baseIsInOrder();
        baseIsReduced();
        memberThatIsNotThere();
        solvesEdges();
        takeEdges();
        seriesGiven();
        seriesReachesBack();
        seriesFirstAndLast();
        seriesWhereThereIsNone();
        turnEdges();
        moveEdges();
        clearEdges();
        CHECK.end();
    }

    private static Object done(Runnable call) {
        call.run();
        return "done";
    }

    private static void order(int given, int order) {
        RationalOdes x = new RationalOdes(given);
        String of = "1: order of " + given + ": ";
        for (int i = 0; i <= order; i++) {
            int factor = i;
            CHECK.due(of + "factor " + i, true, () -> x.put(factor, 0, 1));
        }
        CHECK.index(of + "no factor behind", () -> x.put(order + 1, 0, 1));
        CHECK.index(of + "no factor behind to see", () -> x.at(order + 1, 0));
        x.put(order, 0, 0);
        CHECK.state(of + "this factor is the highest", () -> x.places());
    }

    /** "ORDER r: 1 if that is below 1". */
    private static void orderBelow1() {
        int[] below = {0, -1, -2, -3, LEAST + 1, LEAST};
        for (int r : below) {
            order(r, 1);
        }
    }

    /** "3 if it is above 3". */
    private static void orderAbove3() {
        int[] above = {4, 5, 6, 256, 257, 65537, MOST - 1, MOST};
        for (int r : above) {
            order(r, 3);
        }
    }

    /** "an ORDER r, 1 .. 3". */
    private static void orderFrom1To3() {
        for (int r = 1; r <= 3; r++) {
            order(r, r);
        }
    }

    /** "FACTORS p 0 .. p r, polynomials in x with powers 0 .. 4, all 0 at first". */
    private static void factorsAre0AtFirst() {
        for (int order = 1; order <= 3; order++) {
            RationalOdes x = new RationalOdes(order);
            for (int i = 0; i <= order; i++) {
                for (int power = 0; power <= 4; power++) {
                    int factor = i;
                    int at = power;
                    CHECK.due("1: at(" + i + ", " + power + ")", 0, () -> x.at(factor, at));
                    CHECK.due("1: put(" + i + ", " + power + ", 0)", false, () -> x.put(factor, at, 0));
                }
            }
            CHECK.due("1: all are answers", 13, () -> x.answers());
        }
    }

    /** "The polynomial at hand is 0." */
    private static void nothingAtHandAtFirst() {
        for (int order = 1; order <= 3; order++) {
            RationalOdes x = new RationalOdes(order);
            x.put(0, 0, 1);
            for (int power = 0; power <= 12; power++) {
                int at = power;
                CHECK.due("1: nothing at hand, order " + order, 0, () -> x.made(at));
            }
            CHECK.due("1: nothing at hand solves, order " + order, true, () -> x.solves());
        }
    }

    /** "IndexOutOfBoundsException: no such FACTOR". */
    private static void factorsFrom0ToR() {
        for (int order = 1; order <= 3; order++) {
            RationalOdes x = Equations.full(order);
            int[] none = {LEAST, -2, -1, order + 1, order + 2, 4, 5, MOST};
            for (int i : none) {
                for (int power = 0; power <= 4; power++) {
                    int at = power;
                    CHECK.index("2: put(" + i + ", " + power + "), order " + order, () -> x.put(i, at, 99));
                    CHECK.index("3: at(" + i + ", " + power + "), order " + order, () -> x.at(i, at));
                }
            }
            fullIs(order, x);
        }
    }

    /** "IndexOutOfBoundsException: no such .. power". */
    private static void powersFrom0To4() {
        for (int order = 1; order <= 3; order++) {
            RationalOdes x = Equations.full(order);
            int[] none = {LEAST, -2, -1, 5, 6, 9, 10, MOST};
            for (int power : none) {
                for (int i = 0; i <= order; i++) {
                    int factor = i;
                    CHECK.index("2: put(" + i + ", " + power + "), order " + order, () -> x.put(factor, power, 99));
                    CHECK.index("3: at(" + i + ", " + power + "), order " + order, () -> x.at(factor, power));
                }
            }
            fullIs(order, x);
        }
    }

    private static void fullIs(int order, RationalOdes x) {
        for (int i = 0; i <= order; i++) {
            for (int power = 0; power <= 4; power++) {
                int factor = i;
                int at = power;
                CHECK.due("3: at(" + i + ", " + power + "), order " + order,
                    Equations.fullAt(i, power), () -> x.at(factor, at));
            }
        }
    }

    /** "The number at a power, 0 .. 12, in the polynomial at hand. .. no such power." */
    private static void handPowersFrom0To12() {
        RationalOdes x = new RationalOdes(1);
        x.put(0, 0, 1);
        for (int power = 0; power <= 12; power++) {
            x.hand(power, 100 + power);
        }
        int[] none = {LEAST, -2, -1, 13, 14, MOST};
        for (int power : none) {
            CHECK.index("4: hand(" + power + ")", () -> done(() -> x.hand(power, 99)));
        }
        for (int power = 0; power <= 12; power++) {
            int at = power;
            CHECK.due("4: hand(" + power + ")", 100 + power, () -> x.made(at));
        }
        x.hand(12, 0);
        CHECK.due("4: the highest is 0 again", 0, () -> x.made(12));
        CHECK.due("4: the others stay", 111, () -> x.made(11));
    }

    /** "slopes are those of polynomials, term by term": that of a constant is 0. */
    private static void slopesOfLowPowers() {
        for (int order = 1; order <= 3; order++) {
            RationalOdes x = new RationalOdes(order);
            for (int i = 1; i <= order; i++) {
                x.clear();
                Equations.factor(x, i, 1, 1, 1, 1, 1);
                for (int power = 0; power < i; power++) {
                    x.hand(power, 9);
                }
                String of = "5: slope " + i + " of powers below " + i;
                for (int power = 0; power <= 16; power++) {
                    int at = power;
                    CHECK.due(of, 0, () -> x.made(at));
                }
                CHECK.due(of, true, () -> x.solves());
                x.hand(i, 1);
                CHECK.due("5: slope " + i + " of x^" + i, i == 3 ? 6 : i, () -> x.made(4));
            }
        }
    }

    /** "the sum, over i from 0 to r, of p i times the i-th slope of y (y itself for 0)". */
    private static void makesFrom0ToR() {
        int[] slopes = {1, 12, 132, 1320};
        for (int order = 1; order <= 3; order++) {
            RationalOdes x = new RationalOdes(order);
            x.hand(12, 1);
            for (int i = 0; i <= order; i++) {
                x.put(i, 4, 1);
            }
            for (int power = 0; power <= 16; power++) {
                int i = 16 - power;
                int at = power;
                CHECK.due("5: x^12, order " + order + ", power " + power,
                    i <= order ? slopes[i] : 0, () -> x.made(at));
            }
        }
    }

    /** "0 for powers that it doesn't have." */
    private static void madeHasNoSuchPowers() {
        int[] none = {LEAST, LEAST + 1, -17, -2, -1, 17, 18, 30, 31, MOST - 1, MOST};
        for (int order = 1; order <= 3; order++) {
            RationalOdes x = Equations.full(order);
            Equations.hand(x, 1, 1, 1, 1, 1, 1, 1, 1, 1, 1, 1, 1, 1);
            for (int power : none) {
                CHECK.due("5: made(" + power + ")", 0, () -> x.made(power));
            }
            RationalOdes empty = new RationalOdes(order);
            for (int power = -2; power <= 18; power++) {
                int at = power;
                CHECK.due("5: made(" + power + ") of nothing", 0, () -> empty.made(at));
            }
        }
    }

    /** The highest and the lowest power that are made: 16 and 0. */
    private static void highestMadeOfAll() {
        RationalOdes x = Equations.full(3);
        Equations.hand(x, 1, 1, 1, 1, 1, 1, 1, 1, 1, 1, 1, 1, 32002);
        CHECK.due("5: made(16)", 32003 - 5, () -> x.made(16));
        CHECK.due("5: made(15)", 32003 - 4 + 5 - 12 * 10, () -> x.made(15));
        CHECK.due("5: made(0)", 1 + 6 + 2 * 11 + 6 * 16, () -> x.made(0));
    }

    private static RationalOdes highest(int order, long... numbers) {
        RationalOdes x = new RationalOdes(order);
        Equations.factor(x, order, numbers);
        return x;
    }

    private static void placesAre(String what, RationalOdes x, int... want) {
        CHECK.due("6: " + what, want.length, () -> x.places());
        for (int k = 0; k < want.length; k++) {
            int at = k;
            CHECK.due("7: " + what + ", place " + k, want[k], () -> x.place(at));
        }
        int[] none = {LEAST, -1, want.length, want.length + 1, 4, 5, MOST};
        for (int k : none) {
            CHECK.index("7: " + what + ", place " + k, () -> x.place(k));
        }
    }

    /** "How many PLACES there are": none, where p r is a constant or has no root. */
    private static void placesNone() {
        for (int order = 1; order <= 3; order++) {
            placesAre("a constant, order " + order, highest(order, 1));
            placesAre("the greatest constant, order " + order, highest(order, 32002));
            placesAre("x^2 + 1, order " + order, highest(order, 1, 0, 1));
            placesAre("(x^2 + 1)^2, order " + order, highest(order, 1, 0, 2, 0, 1));
        }
    }

    /** "the NUMBERS at which p r is 0", 0 .. 32002. */
    private static void placesAtBothEndsOfNumbers() {
        for (int order = 1; order <= 3; order++) {
            placesAre("x, order " + order, highest(order, 0, 1), 0);
            placesAre("x + 1, order " + order, highest(order, 1, 1), 32002);
            placesAre("x (x + 1), order " + order, highest(order, 0, 1, 1), 0, 32002);
            placesAre("x (x - 1) (x + 1) (x + 2), order " + order, highest(order, 0, -2, -1, 2, 1),
                0, 1, 32001, 32002);
        }
    }

    /** PLACES are NUMBERS, so a root that comes several times is one. */
    private static void placesOnce() {
        for (int order = 1; order <= 3; order++) {
            placesAre("x^2, order " + order, highest(order, 0, 0, 1), 0);
            placesAre("x^3, order " + order, highest(order, 0, 0, 0, 1), 0);
            placesAre("x^4, order " + order, highest(order, 0, 0, 0, 0, 1), 0);
            placesAre("(x + 1)^4, order " + order, highest(order, 1, 4, 6, 4, 1), 32002);
            placesAre("(x - 1)^2 (x + 1)^2, order " + order, highest(order, 1, 0, -2, 0, 1), 1, 32002);
            placesAre("x (x - 1)^3, order " + order, highest(order, 0, -1, 3, -3, 1), 0, 1);
            placesAre("x (x^2 + 1), order " + order, highest(order, 0, 1, 0, 1), 0);
        }
    }

    /** "at which p r is 0": what the other factors are there does not count. */
    private static void placesAreThoseOfTheHighest() {
        for (int order = 1; order <= 3; order++) {
            RationalOdes x = highest(order, -7, 1);
            for (int i = 0; i < order; i++) {
                Equations.factor(x, i, -8 - i, 1);
            }
            placesAre("x - 7, order " + order, x, 7);
        }
    }

    /** "rising". */
    private static void placesRise() {
        placesAre("four", highest(1, 24, -50, 35, -10, 1), 1, 2, 3, 4);
        placesAre("four, times -1", highest(2, -24, 50, -35, 10, -1), 1, 2, 3, 4);
        placesAre("x^2 - 4", highest(3, -4, 0, 1), 2, 32001);
        placesAre("2 x - 1", highest(3, -1, 2), 16002);
    }

    /** "IllegalStateException: p r is 0." */
    private static void placesNeedAHighest() {
        for (int order = 1; order <= 3; order++) {
            RationalOdes x = Equations.full(order);
            for (int power = 0; power <= 4; power++) {
                x.put(order, power, 32003);
            }
            CHECK.state("6: p r is 0, order " + order, () -> x.places());
            CHECK.state("7: p r is 0, order " + order, () -> x.place(0));
            for (int power = 0; power <= 4; power++) {
                int at = power;
                x.put(order, power, 1);
                CHECK.due("6: p r is x^" + power, power == 0 ? 0 : 1, () -> x.places());
                x.put(order, at, 0);
            }
            CHECK.state("6: p r is 0 again, order " + order, () -> x.places());
        }
    }

    /** "IndexOutOfBoundsException: there is none such", and of both the one that stands first. */
    private static void placeThatIsNotThere() {
        int[] any = {LEAST, -1, 0, 1, 4, MOST};
        for (int k : any) {
            CHECK.state("7: p r is 0, place " + k, () -> new RationalOdes(2).place(k));
            CHECK.index("7: no place, place " + k, () -> highest(2, 1).place(k));
        }
        RationalOdes x = highest(3, 0, 1);
        CHECK.due("7: the only one", 0, () -> x.place(0));
        CHECK.index("7: behind the only one", () -> x.place(1));
        CHECK.index("7: before the only one", () -> x.place(-1));
    }

    private static RationalOdes one(int order, int i, int power) {
        RationalOdes x = new RationalOdes(order);
        x.put(i, power, 32002);
        return x;
    }

    /** "the LEVEL at a NUMBER a is the least j - i .. for which c i j isn't 0 for some i, j". */
    private static void levelLeast() {
        for (int order = 1; order <= 3; order++) {
            for (int i = 0; i <= order; i++) {
                int factor = i;
                for (int power = 0; power <= 4; power++) {
                    RationalOdes x = one(order, i, power);
                    String what = "8: x^" + power + " in factor " + i + ", order " + order;
                    CHECK.due(what + ", at 0", power - i, () -> x.level(false, 0));
                    CHECK.due(what + ", elsewhere", -factor, () -> x.level(false, 1));
                    CHECK.due(what + ", at the greatest number", -factor, () -> x.level(false, 32002));
                    x.move(-5);
                    CHECK.due(what + " - 5, at 5", power - i, () -> x.level(false, 5));
                    CHECK.due(what + " - 5, at 0", -factor, () -> x.level(false, 0));
                }
            }
        }
    }

    /** "LEVEL without end (a 0 there) the greatest". */
    private static void levelGreatest() {
        for (int order = 1; order <= 3; order++) {
            for (int i = 0; i <= order; i++) {
                for (int power = 0; power <= 4; power++) {
                    RationalOdes x = one(order, i, power);
                    String what = "8: x^" + power + " in factor " + i + ", order " + order;
                    CHECK.due(what + ", without end", power - i, () -> x.level(true, 0));
                    CHECK.due(what + ", without end, a is 0", power - i, () -> x.level(true, 9));
                    x.move(3);
                    CHECK.due(what + ", moved, without end", power - i, () -> x.level(true, 0));
                }
            }
        }
    }

    /** "for some i, j": i from 0 to r and j from 0 to 4, both ends. */
    private static void levelCountsEveryFactor() {
        for (int order = 1; order <= 3; order++) {
            int r = order;
            RationalOdes x = Equations.full(order);
            CHECK.due("8: full, order " + order, -r, () -> x.level(false, 0));
            CHECK.due("8: full, without end, order " + order, 4, () -> x.level(true, 0));
            x.put(order, 0, 0);
            CHECK.due("8: without the lowest, order " + order, 1 - r, () -> x.level(false, 0));
            x.put(0, 4, 0);
            CHECK.due("8: without the greatest, order " + order, 3, () -> x.level(true, 0));
        }
    }

    /** "IllegalStateException: all FACTORS are 0." */
    private static void levelOfAll0() {
        for (int order = 1; order <= 3; order++) {
            for (int i = 0; i <= order; i++) {
                for (int power = 0; power <= 4; power++) {
                    RationalOdes x = one(order, i, power);
                    String what = "x^" + power + " in factor " + i + ", order " + order;
                    CHECK.due("8: " + what, power - i, () -> x.level(true, 0));
                    CHECK.due("9: " + what, i == order, () -> x.regular(true, 0));
                    x.put(i, power, 0);
                    CHECK.state("8: no " + what, () -> x.level(false, 0));
                    CHECK.state("8: without end, no " + what, () -> x.level(true, 0));
                    CHECK.state("9: no " + what, () -> x.regular(false, 0));
                    CHECK.state("9: without end, no " + what, () -> x.regular(true, 0));
                    CHECK.state("10: no " + what, () -> x.exponent(false, 0, 0));
                    CHECK.state("10: without end, no " + what, () -> x.exponent(true, 0, 0));
                    CHECK.state("10: no such exponent, no " + what, () -> x.exponent(false, 0, -1));
                }
            }
        }
    }

    /** "they are REGULAR if c r j isn't 0 for that j", which may lie beyond 4 or below 0. */
    private static void regularAtTheEdge() {
        for (int order = 1; order <= 3; order++) {
            RationalOdes x = new RationalOdes(order);
            String of = "9: order " + order + ", ";
            x.put(order, 4, 1);
            CHECK.due(of + "x^4 at 0", true, () -> x.regular(false, 0));
            CHECK.due(of + "x^4 without end", true, () -> x.regular(true, 0));
            x.put(0, 4 - order, 1);
            CHECK.due(of + "a level that both have, at 0", true, () -> x.regular(false, 0));
            CHECK.due(of + "a level that both have, without end", true, () -> x.regular(true, 0));
            x.put(0, 5 - order, 1);
            CHECK.due(of + "one beyond, at 0", true, () -> x.regular(false, 0));
            CHECK.due(of + "one beyond, without end", false, () -> x.regular(true, 0));
            x.put(0, 0, 1);
            CHECK.due(of + "one below, at 0", false, () -> x.regular(false, 0));
            CHECK.due(of + "one below, at 1", true, () -> x.regular(false, 1));
            x.clear();
            x.put(0, 0, 1);
            CHECK.due(of + "the highest is 0", false, () -> x.regular(false, 0));
            CHECK.due(of + "the highest is 0, without end", false, () -> x.regular(true, 0));
        }
    }

    private static void exponentsAre(String what, RationalOdes x, boolean end, long a, int... want) {
        for (int k = 0; k < want.length; k++) {
            int at = k;
            CHECK.due("10: " + what + ", exponent " + k, want[k], () -> x.exponent(end, a, at));
        }
        int[] none = {LEAST, -2, -1, want.length, want.length + 1, 3, 4, 5, MOST};
        for (int k : none) {
            CHECK.due("10: " + what + ", exponent " + k, -1, () -> x.exponent(end, a, k));
        }
    }

    /** "1 for i 0": where p 0 alone counts there are none. */
    private static void exponentsNone() {
        for (int order = 1; order <= 3; order++) {
            for (int power = 0; power <= 4; power++) {
                RationalOdes x = one(order, 0, power);
                exponentsAre("x^" + power + " y, order " + order, x, false, 0);
                exponentsAre("x^" + power + " y without end, order " + order, x, true, 0);
                exponentsAre("x^" + power + " y at 1, order " + order, x, false, 1);
            }
        }
        RationalOdes apart = new RationalOdes(2);
        apart.put(2, 2, 1);
        apart.put(1, 1, 1);
        apart.put(0, 0, 1);
        exponentsAre("s^2 + 1", apart, false, 0);
        exponentsAre("s^2 + 1 without end", apart, true, 0);
    }

    /** "s (s - 1) .. (s - i + 1)": 0 .. i - 1 where one factor alone counts. */
    private static void exponentsOfEachNumber() {
        int[][] want = {{}, {0}, {0, 1}, {0, 1, 2}};
        for (int order = 1; order <= 3; order++) {
            for (int i = 0; i <= order; i++) {
                for (int power = 0; power <= 4; power++) {
                    RationalOdes x = one(order, i, power);
                    String what = "x^" + power + " in factor " + i + ", order " + order;
                    exponentsAre(what, x, false, 0, want[i]);
                    exponentsAre(what + ", without end", x, true, 0, want[i]);
                    exponentsAre(what + ", elsewhere", x, false, 77, want[i]);
                }
            }
        }
    }

    /** "the NUMBERS s", 0 .. 32002. */
    private static void exponentsAtBothEndsOfNumbers() {
        exponentsAre("x y'", Equations.power(0), false, 0, 0);
        exponentsAre("x y' + y", Equations.power(-1), false, 0, 32002);
        exponentsAre("x y' + y, without end", Equations.power(-1), true, 0, 32002);
        exponentsAre("x y' - 16001 y", Equations.power(16001), false, 0, 16001);
        RationalOdes both = new RationalOdes(2);
        both.put(2, 2, 1);
        both.put(1, 1, 2);
        exponentsAre("s (s + 1)", both, false, 0, 0, 32002);
        exponentsAre("s (s + 1), without end", both, true, 0, 0, 32002);
    }

    /** "rising"; they are NUMBERS, so each is one. */
    private static void exponentsOnceAndRising() {
        exponentsAre("Euler at 0", Equations.euler(), false, 0, 1, 2, 32000);
        exponentsAre("Euler without end", Equations.euler(), true, 0, 1, 2, 32000);
        RationalOdes twice = new RationalOdes(2);
        twice.put(2, 2, 1);
        twice.put(1, 1, 1);
        exponentsAre("s^2", twice, false, 0, 0);
        RationalOdes thrice = new RationalOdes(3);
        thrice.put(3, 3, 1);
        thrice.put(1, 1, 1);
        thrice.put(0, 0, -1);
        exponentsAre("(s - 1)^3", thrice, false, 0, 1);
        RationalOdes lower = new RationalOdes(3);
        lower.put(3, 4, 1);
        lower.put(1, 1, 1);
        lower.put(0, 0, -9);
        exponentsAre("s - 9, for the highest is at another level", lower, false, 0, 9);
        exponentsAre("only the highest, without end", lower, true, 0, 0, 1, 2);
    }

    /** "-1 if there is none such". */
    private static void exponentThatIsNotThere() {
        RationalOdes x = highest(3, 1);
        exponentsAre("three", x, false, 0, 0, 1, 2);
        exponentsAre("three, without end", x, true, 0, 0, 1, 2);
        exponentsAre("one", Equations.power(7), false, 0, 7);
        exponentsAre("one, at no place", Equations.power(7), false, 1, 0);
    }

    /** "How many the BASE of ANSWERS has": 0 to 13. */
    private static void answersFromNoneToAll() {
        for (int order = 1; order <= 3; order++) {
            int r = order;
            CHECK.due("11: all, order " + order, 13, () -> new RationalOdes(r).answers());
            for (int i = 0; i <= order; i++) {
                int factor = i;
                for (int power = 0; power <= 4; power++) {
                    RationalOdes x = one(order, i, power);
                    CHECK.due("11: x^" + power + " in factor " + i, factor, () -> x.answers());
                    x.put(i, power, 0);
                    CHECK.due("11: all again", 13, () -> x.answers());
                }
            }
        }
    }

    /** "the polynomials with powers 0 .. 12". */
    private static void answersUpToPower12() {
        for (int n = -2; n <= 14; n++) {
            RationalOdes x = Equations.power(n);
            boolean inside = n >= 0 && n <= 12;
            int highest = n;
            CHECK.due("11: x^" + n, inside ? 1 : 0, () -> x.answers());
            if (inside) {
                for (int power = 0; power <= 12; power++) {
                    int at = power;
                    CHECK.due("12: x^" + n + " at " + power, power == highest ? 1 : 0, () -> x.answer(0, at));
                }
            } else {
                CHECK.index("12: x^" + n, () -> x.answer(0, 0));
            }
        }
        CHECK.due("11: Legendre 12", 1, () -> Equations.legendre(12).answers());
        CHECK.due("12: Legendre 12", 1, () -> Equations.legendre(12).answer(0, 12));
        CHECK.due("11: Legendre 13", 0, () -> Equations.legendre(13).answers());
    }

    /** "of which the EQUATION MAKES 0", at every power up to the highest it can make. */
    private static void answersMakeNothingAtAll() {
        RationalOdes x = new RationalOdes(1);
        x.put(1, 0, 1);
        x.put(0, 0, -1);
        CHECK.due("11: y' = y: only power 12 is left over", 0, () -> x.answers());
        x.put(0, 0, 0);
        x.put(0, 4, -1);
        CHECK.due("11: y' = x^4 y: only powers above 11 are left over", 0, () -> x.answers());
        x.put(1, 0, 0);
        CHECK.due("11: x^4 y: x^12 makes only x^16", 0, () -> x.answers());
        RationalOdes low = new RationalOdes(3);
        low.put(3, 4, 1);
        low.put(0, 0, 1);
        CHECK.due("11: x^4 y''' + y", 0, () -> low.answers());
    }

    /** "the one with the highest power is the first". */
    private static void baseIsInOrder() {
        RationalOdes all = new RationalOdes(3);
        for (int k = 0; k < 13; k++) {
            for (int power = 0; power < 13; power++) {
                int member = k;
                int at = power;
                CHECK.due("12: all, " + k + ", " + power, k + power == 12 ? 1 : 0, () -> all.answer(member, at));
            }
        }
        RationalOdes three = highest(3, 1);
        for (int k = 0; k < 3; k++) {
            for (int power = 0; power < 13; power++) {
                int member = k;
                int at = power;
                CHECK.due("12: y''', " + k + ", " + power, k + power == 2 ? 1 : 0, () -> three.answer(member, at));
            }
        }
    }

    /** "of each the highest power has 1, the others have 0 there": of (x + 1)^2 and x + 1. */
    private static void baseIsReduced() {
        RationalOdes x = Equations.euler();
        x.move(1);
        int[][] want = {{32002, 0, 1, 0}, {1, 1, 0, 0}};
        for (int k = 0; k < 2; k++) {
            for (int power = 0; power < 4; power++) {
                int member = k;
                int at = power;
                CHECK.due("12: Euler moved, " + k + ", " + power, want[k][power], () -> x.answer(member, at));
            }
        }
    }

    /** "IndexOutOfBoundsException: no such member, or power (0 .. 12)." */
    private static void memberThatIsNotThere() {
        int[] noPower = {LEAST, -2, -1, 13, 14, 16, MOST};
        for (int members = 0; members <= 3; members++) {
            RationalOdes x = one(3, members, 0);
            int[] none = {LEAST, -1, members, members + 1, 12, 13, MOST};
            for (int k : none) {
                CHECK.index("12: of " + members + ", member " + k, () -> x.answer(k, 0));
                CHECK.index("12: of " + members + ", member " + k + ", power 12", () -> x.answer(k, 12));
                CHECK.index("14: of " + members + ", take " + k, () -> done(() -> x.take(k)));
            }
            for (int power : noPower) {
                CHECK.index("12: of " + members + ", power " + power, () -> x.answer(0, power));
            }
            int last = members - 1;
            if (last >= 0) {
                CHECK.due("12: of " + members + ", the last", 1, () -> x.answer(last, 0));
                CHECK.due("12: of " + members + ", the last, power 12", 0, () -> x.answer(last, 12));
            }
        }
        RationalOdes all = new RationalOdes(2);
        CHECK.due("12: the last of all", 1, () -> all.answer(12, 0));
        CHECK.due("12: the first of all", 1, () -> all.answer(0, 12));
        CHECK.index("12: behind the last of all", () -> all.answer(13, 0));
        CHECK.index("12: before the first of all", () -> all.answer(-1, 12));
        CHECK.index("14: behind the last of all", () -> done(() -> all.take(13)));
        CHECK.index("14: before the first of all", () -> done(() -> all.take(-1)));
    }

    /** "Whether the polynomial at hand is an ANSWER": 0 is one, and one made power is too many. */
    private static void solvesEdges() {
        for (int order = 1; order <= 3; order++) {
            RationalOdes x = Equations.full(order);
            CHECK.due("13: 0 solves, order " + order, true, () -> x.solves());
            RationalOdes empty = new RationalOdes(order);
            Equations.hand(empty, 1, 2, 3, 4, 5, 6, 7, 8, 9, 10, 11, 12, 13);
            CHECK.due("13: all solve 0, order " + order, true, () -> empty.solves());
        }
        for (int power = 0; power <= 12; power++) {
            for (int factor = 0; factor <= 4; factor++) {
                RationalOdes x = one(1, 0, factor);
                x.hand(power, 1);
                CHECK.due("13: only power " + (power + factor) + " is made", false, () -> x.solves());
                x.hand(power, 32003);
                CHECK.due("13: nothing is made", true, () -> x.solves());
            }
        }
    }

    /** "Member k comes to hand": the first and the last, in place of all that was there. */
    private static void takeEdges() {
        for (int k = 0; k <= 12; k++) {
            RationalOdes x = new RationalOdes(2);
            Equations.hand(x, 9, 9, 9, 9, 9, 9, 9, 9, 9, 9, 9, 9, 9);
            x.take(k);
            x.put(0, 0, 1);
            for (int power = 0; power <= 12; power++) {
                int at = power;
                CHECK.due("14: take(" + k + "), power " + power, k + power == 12 ? 1 : 0, () -> x.made(at));
            }
        }
        RationalOdes x = Equations.euler();
        x.take(1);
        CHECK.due("14: the last of two solves", true, () -> x.solves());
        CHECK.index("14: behind the last of two", () -> done(() -> x.take(2)));
        x.put(0, 0, 7);
        CHECK.due("14: x at hand makes x, as 7 isn't 6", 1, () -> x.made(1));
        CHECK.index("14: no member any more", () -> done(() -> x.take(0)));
        CHECK.due("14: x stays at hand", 1, () -> x.made(1));
    }

    /** "from c, d, e (as many as the ORDER)"; "those at powers below r are given". */
    private static void seriesGiven() {
        int[] given = {101, 102, 103};
        for (int order = 1; order <= 3; order++) {
            RationalOdes x = highest(order, 1);
            for (int power = 0; power <= 30; power++) {
                int at = power;
                CHECK.due("15: the " + order + "-th slope is 0, power " + power,
                    power < order ? given[power] : 0, () -> x.series(0, 101, 102, 103, at));
            }
        }
        RationalOdes first = Equations.full(1);
        RationalOdes second = Equations.full(2);
        for (int power = 0; power <= 30; power++) {
            int at = power;
            int one = first.series(3, 5, 0, 0, power);
            CHECK.due("15: d, e are not for order 1, power " + power, one, () -> first.series(3, 5, 7, 8, at));
            int two = second.series(3, 5, 6, 0, power);
            CHECK.due("15: e is not for order 2, power " + power, two, () -> second.series(3, 5, 6, 8, at));
        }
    }

    /** Each number follows from those up to 4 and the ORDER powers before it: y at power n - r - 4 too. */
    private static void seriesReachesBack() {
        for (int order = 1; order <= 3; order++) {
            RationalOdes x = highest(order, 1);
            x.put(0, 4, -1);
            long want = 1;
            for (int power = 1; power <= 30; power++) {
                int at = power;
                boolean has = power % (order + 4) == 0;
                for (int i = 0; has && i < order; i++) {
                    want = Plain.mod(want * Plain.power(power - i, Plain.P - 2));
                }
                CHECK.due("15: the " + order + "-th slope is x^4 y, power " + power,
                    has ? want : 0, () -> x.series(0, 1, 0, 0, at));
            }
        }
    }

    /** "numbers for powers 0 .. 30 of t; .. 0 at powers 0 .. 30 - r". */
    private static void seriesFirstAndLast() {
        RationalOdes x = new RationalOdes(1);
        x.put(1, 0, 1);
        x.put(1, 1, -1);
        x.put(0, 0, -1);
        for (int power = 0; power <= 30; power++) {
            int at = power;
            CHECK.due("15: 1 over 1 - t, power " + power, 9, () -> x.series(0, 9, 0, 0, at));
        }
        RationalOdes second = highest(2, 1);
        second.put(0, 0, -1);
        long inverse = 1;
        for (int power = 2; power <= 30; power++) {
            inverse = Plain.mod(inverse * Plain.power(power, Plain.P - 2));
            long want = power % 2 == 0 ? inverse : 0;
            int at = power;
            CHECK.due("15: y'' = y from 1, 0, power " + power, want, () -> second.series(0, 1, 0, 0, at));
        }
        int[] none = {LEAST, -2, -1, 31, 32, MOST};
        for (int power : none) {
            CHECK.index("15: no power " + power, () -> x.series(0, 9, 0, 0, power));
            CHECK.index("15: no power " + power + " at a place", () -> x.series(1, 9, 0, 0, power));
            CHECK.index("15: no power " + power + " without p r", () -> new RationalOdes(2).series(0, 1, 1, 1, power));
        }
    }

    /** "ArithmeticException: the number is a PLACE (or p r is 0)." */
    private static void seriesWhereThereIsNone() {
        for (int order = 1; order <= 3; order++) {
            RationalOdes x = highest(order, 0, 1);
            x.put(0, 0, 1);
            for (int power = 0; power <= 30; power++) {
                int at = power;
                CHECK.arithmetic("15: a place, power " + power, () -> x.series(0, 1, 2, 3, at));
            }
            CHECK.due("15: beside the place", 1, () -> x.series(1, 1, 2, 3, 0));
            CHECK.due("15: before the place", 1, () -> x.series(-1, 1, 2, 3, 0));
            x.put(order, 1, 0);
            for (int power = 0; power <= 30; power++) {
                int at = power;
                CHECK.arithmetic("15: p r is 0, power " + power, () -> x.series(1, 1, 2, 3, at));
            }
            x.put(order, 0, 1);
            CHECK.due("15: p r is 1", 1, () -> x.series(1, 1, 2, 3, 0));
        }
    }

    /** "The ADJOINT EQUATION has the same ORDER"; its slopes of 0 and of constants are 0. */
    private static void turnEdges() {
        for (int order = 1; order <= 3; order++) {
            int r = order;
            RationalOdes empty = new RationalOdes(order);
            empty.turn();
            CHECK.due("16: 0 turned, order " + order, 13, () -> empty.answers());
            CHECK.index("16: the same order, " + order, () -> empty.at(r + 1, 0));
            for (int i = 0; i <= order; i++) {
                RationalOdes x = one(order, i, 0);
                x.turn();
                for (int j = 0; j <= order; j++) {
                    for (int power = 0; power <= 4; power++) {
                        int factor = j;
                        int at = power;
                        int want = j != i || power > 0 ? 0 : i % 2 == 0 ? 32002 : 1;
                        CHECK.due("16: -1 in factor " + i + ", at(" + j + ", " + power + ")",
                            want, () -> x.at(factor, at));
                    }
                }
            }
        }
        turnOfTheHighestPower();
    }

    /** The slopes of x^4 are 4 x^3, 12 x^2, 24 x; 3 over 2, 1, 0 is 3, 3, 1. */
    private static void turnOfTheHighestPower() {
        int[][] want = {
            {0, 0, 0, 0, 1},
            {0, 0, 0, -4, 0, 0, 0, 0, 0, -1},
            {0, 0, 12, 0, 0, 0, 0, 0, 8, 0, 0, 0, 0, 0, 1},
            {0, -24, 0, 0, 0, 0, 0, -36, 0, 0, 0, 0, 0, -12, 0, 0, 0, 0, 0, -1}
        };
        for (int order = 1; order <= 3; order++) {
            for (int i = 0; i <= order; i++) {
                RationalOdes x = new RationalOdes(order);
                x.put(i, 4, 1);
                x.turn();
                for (int n = 0; n < 5 * (order + 1); n++) {
                    int at = n;
                    long number = n < want[i].length ? Plain.mod(want[i][n]) : 0;
                    CHECK.due("16: x^4 in factor " + i + ", at(" + n / 5 + ", " + n % 5 + ")",
                        number, () -> x.at(at / 5, at % 5));
                }
            }
        }
    }

    /** "(the polynomial at hand stays)"; by 0 and by the modulus nothing moves. */
    private static void moveEdges() {
        for (int order = 1; order <= 3; order++) {
            RationalOdes x = Equations.full(order);
            x.hand(12, 5);
            x.hand(0, 6);
            x.move(0);
            x.move(32003);
            x.move(-32003);
            fullIs(order, x);
            x.move(32002);
            x.move(1);
            fullIs(order, x);
            RationalOdes empty = new RationalOdes(order);
            empty.move(5);
            CHECK.due("17: 0 moved", 13, () -> empty.answers());
            RationalOdes kept = new RationalOdes(order);
            kept.put(0, 0, 1);
            Equations.hand(kept, 1, 2, 3, 4, 5, 6, 7, 8, 9, 10, 11, 12, 13);
            kept.move(7);
            for (int power = 0; power <= 12; power++) {
                int at = power;
                CHECK.due("17: what is at hand stays, power " + power, power + 1, () -> kept.made(at));
            }
        }
    }

    /** "All FACTORS are 0, and the polynomial at hand is", the highest powers too; the ORDER stays. */
    private static void clearEdges() {
        for (int order = 1; order <= 3; order++) {
            RationalOdes x = Equations.full(order);
            Equations.hand(x, 1, 1, 1, 1, 1, 1, 1, 1, 1, 1, 1, 1, 1);
            x.clear();
            String of = Seen.all(x, order);
            CHECK.due("18: seen as new, order " + order, fresh(order), () -> of);
            RationalOdes empty = new RationalOdes(order);
            empty.clear();
            String still = Seen.all(empty, order);
            CHECK.due("18: a new object cleared, order " + order, fresh(order), () -> still);
        }
    }

    private static String fresh(int order) {
        return Seen.all(new RationalOdes(order), order);
    }
}
