/** Each promise of the document by its number, with answers worked out by hand. */
public final class PromisesTest {
    private static final int[] NO_POWER_OF_13 = {-1, 13, Integer.MIN_VALUE, Integer.MAX_VALUE};
    private static final Check CHECK = new Check();

    public static void main(String[] args) {
        newObject();
        putAndAt();
        handAndMade();
        places();
        level();
        regular();
        exponent();
        answers();
        answerAndTake();
        solves();
        series();
        turn();
        move();
        clear();
        nothingChanges();
        CHECK.end();
    }

    private static Object done(Runnable call) {
        call.run();
        return "done";
    }

    private static void newObject() {
        int[] given = {Integer.MIN_VALUE, -1, 0, 1, 2, 3, 4, Integer.MAX_VALUE};
        int[] orders = {1, 1, 1, 1, 2, 3, 3, 3};
        for (int n = 0; n < given.length; n++) {
            RationalOdes x = new RationalOdes(given[n]);
            int order = orders[n];
            String of = "1: order of " + given[n] + ": ";
            CHECK.due(of + "at(order, 4)", 0, () -> x.at(order, 4));
            CHECK.index(of + "at(order + 1, 0)", () -> x.at(order + 1, 0));
            for (int i = 0; i <= order; i++) {
                for (int power = 0; power <= 4; power++) {
                    int factor = i;
                    int at = power;
                    CHECK.due(of + "all 0", 0, () -> x.at(factor, at));
                }
            }
            x.put(0, 0, 1);
            CHECK.due(of + "0 at hand", true, () -> x.solves());
        }
    }

    private static void putAndAt() {
        RationalOdes x = new RationalOdes(2);
        CHECK.due("2: put 0 over 0", false, () -> x.put(0, 0, 0));
        CHECK.due("2: put another", true, () -> x.put(2, 4, -1));
        CHECK.due("3: at it", 32002, () -> x.at(2, 4));
        CHECK.due("2: the same modulo 32003", false, () -> x.put(2, 4, 32002L + 32003L * 1000000007L));
        CHECK.due("2: put the modulus over 0", false, () -> x.put(1, 1, 32003));
        CHECK.due("2: the greatest long", true, () -> x.put(1, 1, Long.MAX_VALUE));
        CHECK.due("3: the greatest long", (int) (Long.MAX_VALUE % 32003), () -> x.at(1, 1));
        CHECK.due("2: the least long", true, () -> x.put(1, 1, Long.MIN_VALUE));
        CHECK.due("3: the least long", (int) (32003 + Long.MIN_VALUE % 32003), () -> x.at(1, 1));
        CHECK.due("2: back to 0", true, () -> x.put(1, 1, 0));
        int[][] wrong = {{-1, 0}, {3, 0}, {0, -1}, {0, 5}, {Integer.MAX_VALUE, 0}, {0, Integer.MIN_VALUE}, {3, 5}};
        for (int[] w : wrong) {
            CHECK.index("2: put(" + w[0] + ", " + w[1] + ")", () -> x.put(w[0], w[1], 7));
            CHECK.index("3: at(" + w[0] + ", " + w[1] + ")", () -> x.at(w[0], w[1]));
        }
        RationalOdes first = new RationalOdes(1);
        CHECK.index("2: order 1 has no factor 2", () -> first.put(2, 0, 1));
        CHECK.index("3: order 1 has no factor 2", () -> first.at(2, 0));
    }

    private static void handAndMade() {
        RationalOdes x = new RationalOdes(3);
        for (int power : NO_POWER_OF_13) {
            CHECK.index("4: hand(" + power + ")", () -> done(() -> x.hand(power, 1)));
        }
        x.hand(12, 1);
        x.hand(0, -1);
        x.put(0, 4, 2);
        CHECK.due("5: 2 x^4 times x^12", 2, () -> x.made(16));
        CHECK.due("5: 2 x^4 times -1", 32001, () -> x.made(4));
        x.put(1, 3, 1);
        CHECK.due("5: x^3 times 12 x^11", 12, () -> x.made(14));
        x.put(2, 2, 1);
        CHECK.due("5: x^2 times 132 x^10", 132, () -> x.made(12));
        x.put(3, 0, 5);
        CHECK.due("5: 5 times 1320 x^9", 6600, () -> x.made(9));
        x.put(3, 4, 1);
        CHECK.due("5: x^4 times 1320 x^9", 1320, () -> x.made(13));
        int[] none = {-1, 17, 18, 100, Integer.MIN_VALUE, Integer.MAX_VALUE};
        for (int power : none) {
            CHECK.due("5: made(" + power + ")", 0, () -> x.made(power));
        }
        x.hand(12, 32003);
        CHECK.due("4: the modulus is 0", 0, () -> x.made(16));
        x.hand(12, Long.MIN_VALUE);
        CHECK.due("4: the least long", (int) (32003 + Long.MIN_VALUE % 32003) * 2 % 32003, () -> x.made(16));
        x.put(0, 0, 1);
        CHECK.due("5: follows a change of the factors", 32002, () -> x.made(0));
    }

    private static void places() {
        RationalOdes x = Equations.legendre(2);
        CHECK.due("6: two", 2, () -> x.places());
        CHECK.due("7: the lower", 1, () -> x.place(0));
        CHECK.due("7: the higher", 32002, () -> x.place(1));
        CHECK.index("7: no third", () -> x.place(2));
        CHECK.index("7: below 0", () -> x.place(-1));
        CHECK.index("7: far", () -> x.place(Integer.MAX_VALUE));
        x.put(2, 0, 0);
        CHECK.due("6: a double root is one place", 1, () -> x.places());
        CHECK.due("7: 0", 0, () -> x.place(0));
        x.put(2, 2, 0);
        CHECK.state("6: the highest factor is 0", () -> x.places());
        CHECK.state("7: the highest factor is 0", () -> x.place(0));
        CHECK.state("7: the state comes first", () -> x.place(-1));
        x.put(2, 0, 9);
        CHECK.due("6: a constant has none", 0, () -> x.places());
        CHECK.index("7: a constant has none", () -> x.place(0));
        RationalOdes four = new RationalOdes(1);
        long[] factor = {24, -50, 35, -10, 1};
        for (int power = 0; power <= 4; power++) {
            four.put(1, power, 7 * factor[power]);
        }
        CHECK.due("6: four", 4, () -> four.places());
        for (int k = 0; k < 4; k++) {
            int at = k;
            CHECK.due("7: (x - 1) (x - 2) (x - 3) (x - 4)", k + 1, () -> four.place(at));
        }
        RationalOdes none = new RationalOdes(1);
        none.put(1, 2, 1);
        none.put(1, 0, 1);
        CHECK.due("6: -1 is no square", 0, () -> none.places());
    }

    private static void level() {
        RationalOdes x = Equations.legendre(2);
        CHECK.due("8: at 0", -2, () -> x.level(false, 0));
        CHECK.due("8: at 1", -1, () -> x.level(false, 1));
        CHECK.due("8: at -1", -1, () -> x.level(false, -1));
        CHECK.due("8: at 1 and a multiple of the modulus", -1, () -> x.level(false, 1 + 32003L * 99999999999L));
        CHECK.due("8: without end", 0, () -> x.level(true, 0));
        CHECK.due("8: without end the number is free", 0, () -> x.level(true, 1));
        RationalOdes high = new RationalOdes(3);
        high.put(0, 4, 1);
        CHECK.due("8: the highest", 4, () -> high.level(false, 0));
        CHECK.due("8: elsewhere", 0, () -> high.level(false, 1));
        CHECK.due("8: the highest without end", 4, () -> high.level(true, 0));
        high.put(0, 4, 0);
        high.put(3, 0, 1);
        CHECK.due("8: the lowest without end", -3, () -> high.level(true, 0));
        CHECK.due("8: the lowest", -3, () -> high.level(false, 5));
        high.put(3, 0, 0);
        CHECK.state("8: all factors are 0", () -> high.level(false, 0));
        CHECK.state("8: all factors are 0, without end", () -> high.level(true, 0));
    }

    private static void regular() {
        RationalOdes x = Equations.legendre(2);
        CHECK.due("9: at 0", true, () -> x.regular(false, 0));
        CHECK.due("9: at 1", true, () -> x.regular(false, 1));
        CHECK.due("9: without end", true, () -> x.regular(true, 7));
        RationalOdes odd = new RationalOdes(1);
        odd.put(1, 2, 1);
        odd.put(0, 0, 1);
        CHECK.due("9: x^2 y' + y at 0", false, () -> odd.regular(false, 0));
        CHECK.due("9: x^2 y' + y at 1", true, () -> odd.regular(false, 1));
        CHECK.due("9: x^2 y' + y without end", true, () -> odd.regular(true, 0));
        odd.put(0, 4, 1);
        CHECK.due("9: no power 5 without end", false, () -> odd.regular(true, 0));
        odd.clear();
        CHECK.state("9: all factors are 0", () -> odd.regular(false, 0));
        CHECK.state("9: all factors are 0, without end", () -> odd.regular(true, 0));
        RationalOdes low = new RationalOdes(2);
        low.put(1, 0, 1);
        CHECK.due("9: no highest factor", false, () -> low.regular(false, 0));
        CHECK.due("9: no highest factor, without end", false, () -> low.regular(true, 0));
    }

    private static void exponents(String what, RationalOdes x, boolean end, long a, int... want) {
        for (int k = 0; k < want.length; k++) {
            int at = k;
            CHECK.due("10: " + what + ", " + k, want[k], () -> x.exponent(end, a, at));
        }
        int[] none = {-1, want.length, 3, 4, Integer.MIN_VALUE, Integer.MAX_VALUE};
        for (int k : none) {
            CHECK.due("10: " + what + ", " + k, -1, () -> x.exponent(end, a, k));
        }
    }

    private static void exponent() {
        exponents("Legendre at 0", Equations.legendre(2), false, 0, 0, 1);
        exponents("Legendre at 1, twice", Equations.legendre(2), false, 1, 0);
        exponents("Legendre at -1", Equations.legendre(2), false, -1, 0);
        exponents("Legendre without end", Equations.legendre(2), true, 1, 2, 32000);
        exponents("Euler at 0", Equations.euler(), false, 0, 1, 2, 32000);
        exponents("Euler at 1", Equations.euler(), false, 1, 0, 1, 2);
        exponents("Euler without end", Equations.euler(), true, 0, 1, 2, 32000);
        RationalOdes half = new RationalOdes(1);
        half.put(1, 1, 2);
        half.put(0, 0, -1);
        exponents("2 x y' - y", half, false, 0, 16002);
        RationalOdes none = new RationalOdes(1);
        none.put(1, 2, 1);
        none.put(0, 0, 1);
        exponents("x^2 y' + y at 0", none, false, 0);
        RationalOdes apart = new RationalOdes(2);
        apart.put(2, 2, 1);
        apart.put(1, 1, 1);
        apart.put(0, 0, 1);
        exponents("s^2 + 1", apart, false, 0);
        apart.clear();
        CHECK.state("10: all factors are 0", () -> apart.exponent(false, 0, 0));
        CHECK.state("10: all factors are 0, no such exponent", () -> apart.exponent(true, 0, -1));
    }

    private static void answers() {
        CHECK.due("11: all", 13, () -> new RationalOdes(2).answers());
        for (int n = 0; n <= 12; n++) {
            RationalOdes x = Equations.legendre(n);
            CHECK.due("11: Legendre " + n, 1, () -> x.answers());
        }
        CHECK.due("11: Legendre 13 is beyond", 0, () -> Equations.legendre(13).answers());
        CHECK.due("11: Euler", 2, () -> Equations.euler().answers());
        RationalOdes x = new RationalOdes(3);
        x.put(3, 0, 1);
        CHECK.due("11: y''' alone", 3, () -> x.answers());
        x.put(3, 0, 0);
        x.put(0, 4, 1);
        CHECK.due("11: x^4 y alone", 0, () -> x.answers());
        x.put(0, 4, 0);
        CHECK.due("11: follows a change", 13, () -> x.answers());
        RationalOdes top = new RationalOdes(1);
        top.put(1, 1, 1);
        top.put(0, 0, -12);
        CHECK.due("11: x^12", 1, () -> top.answers());
        top.put(0, 0, -13);
        CHECK.due("11: x^13 is beyond", 0, () -> top.answers());
    }

    private static void answerAndTake() {
        RationalOdes x = Equations.legendre(2);
        CHECK.due("12: -1/3", 21335, () -> x.answer(0, 0));
        CHECK.due("12: 0", 0, () -> x.answer(0, 1));
        CHECK.due("12: 1 at the highest", 1, () -> x.answer(0, 2));
        CHECK.due("12: 0 above", 0, () -> x.answer(0, 12));
        for (int power : NO_POWER_OF_13) {
            CHECK.index("12: answer(0, " + power + ")", () -> x.answer(0, power));
        }
        int[] none = {-1, 1, 13, Integer.MIN_VALUE, Integer.MAX_VALUE};
        for (int k : none) {
            CHECK.index("12: answer(" + k + ", 0)", () -> x.answer(k, 0));
            CHECK.index("14: take(" + k + ")", () -> done(() -> x.take(k)));
        }
        RationalOdes fourth = Equations.legendre(4);
        CHECK.due("12: x^4 - 6/7 x^2 + 3/35, at 4", 1, () -> fourth.answer(0, 4));
        CHECK.due("12: x^4 - 6/7 x^2 + 3/35, at 2", 31997, () -> fourth.answer(0, 2) * 7 % 32003);
        CHECK.due("12: x^4 - 6/7 x^2 + 3/35, at 0", 3, () -> fourth.answer(0, 0) * 35 % 32003);
        RationalOdes two = Equations.euler();
        two.move(1);
        int[][] want = {{32002, 0, 1}, {1, 1, 0}};
        for (int k = 0; k < 2; k++) {
            for (int power = 0; power < 3; power++) {
                int member = k;
                int at = power;
                CHECK.due("12: (x + 1)^2 and x + 1 made a base", want[k][power], () -> two.answer(member, at));
            }
        }
        RationalOdes all = new RationalOdes(1);
        for (int k = 0; k < 13; k++) {
            for (int power = 0; power < 13; power++) {
                int member = k;
                int at = power;
                CHECK.due("12: powers alone", k + power == 12 ? 1 : 0, () -> all.answer(member, at));
            }
        }
        takenIsAtHand();
    }

    private static void takenIsAtHand() {
        RationalOdes x = new RationalOdes(1);
        x.hand(3, 9);
        x.take(4);
        x.put(0, 0, 1);
        for (int power = 0; power <= 12; power++) {
            int at = power;
            CHECK.due("14: x^8 at hand", power == 8 ? 1 : 0, () -> x.made(at));
        }
        CHECK.index("14: y alone has no answer", () -> done(() -> x.take(0)));
        CHECK.due("14: what is at hand stays", 1, () -> x.made(8));
        x.put(0, 0, 0);
        x.take(0);
        x.hand(0, 2);
        CHECK.due("14: a change at hand leaves the base", 0, () -> x.answer(0, 0));
    }

    private static void solves() {
        RationalOdes x = Equations.legendre(2);
        CHECK.due("13: 0", true, () -> x.solves());
        x.hand(2, 3);
        CHECK.due("13: 3 x^2", false, () -> x.solves());
        x.hand(0, -1);
        CHECK.due("13: 3 x^2 - 1", true, () -> x.solves());
        x.put(0, 4, 1);
        CHECK.due("13: another equation", false, () -> x.solves());
        RationalOdes top = new RationalOdes(1);
        top.put(0, 4, 1);
        top.hand(12, 1);
        CHECK.due("13: only power 16 is made", false, () -> top.solves());
        top.put(0, 4, 0);
        CHECK.due("13: no factors", true, () -> top.solves());
    }

    private static void series() {
        RationalOdes x = new RationalOdes(1);
        x.put(1, 0, 1);
        x.put(0, 0, -1);
        long factorial = 1;
        for (int power = 0; power <= 30; power++) {
            factorial = factorial * Math.max(1, power) % 32003;
            long scale = factorial;
            int at = power;
            CHECK.due("15: y' = y", 1L, () -> x.series(5, 1, 77, 77, at) * scale % 32003);
        }
        int[] none = {-1, 31, Integer.MIN_VALUE, Integer.MAX_VALUE};
        for (int power : none) {
            CHECK.index("15: power " + power, () -> x.series(0, 1, 1, 1, power));
        }
        RationalOdes third = new RationalOdes(3);
        third.put(3, 0, 1);
        CHECK.due("15: c", 32002, () -> third.series(9, -1, 5, 6, 0));
        CHECK.due("15: d", 5, () -> third.series(9, -1, 5 - 32003L * 1000000L, 6, 1));
        CHECK.due("15: e", 6, () -> third.series(9, -1, 5, 6, 2));
        CHECK.due("15: y''' = 0", 0, () -> third.series(9, -1, 5, 6, 3));
        RationalOdes second = Equations.legendre(2);
        CHECK.due("15: e is not for order 2", 0, () -> second.series(0, -1, 0, 55, 4));
        CHECK.due("15: 3 x^2 - 1 from -1, 0", 3, () -> second.series(0, -1, 0, 55, 2));
        CHECK.due("15: 3 (t + 2)^2 - 1 at 2", 3, () -> second.series(2, 11, 12, 0, 2));
        CHECK.due("15: 3 (t + 2)^2 - 1 at 2 ends", 0, () -> second.series(2, 11, 12, 0, 30));
        CHECK.arithmetic("15: a place", () -> second.series(1, 1, 1, 1, 5));
        CHECK.arithmetic("15: a place, a given power", () -> second.series(-1, 1, 1, 1, 0));
        CHECK.arithmetic("15: a place modulo 32003", () -> second.series(32004, 1, 1, 1, 0));
        CHECK.index("15: the power comes first", () -> second.series(1, 1, 1, 1, 31));
        second.put(2, 0, 0);
        second.put(2, 2, 0);
        CHECK.arithmetic("15: the highest factor is 0", () -> second.series(3, 1, 1, 1, 0));
        CHECK.index("15: the power comes first, no highest factor", () -> second.series(3, 1, 1, 1, -1));
    }

    private static void turn() {
        RationalOdes x = Equations.euler();
        CHECK.due("16: before, answers", 2, () -> x.answers());
        x.turn();
        CHECK.due("16: after, answers", 1, () -> x.answers());
        int[] want = {12, 0, 31997, 32002};
        for (int i = 0; i <= 3; i++) {
            int at = i;
            CHECK.due("16: Euler, factor " + i, want[i], () -> x.at(at, at));
        }
        RationalOdes y = new RationalOdes(1);
        y.put(1, 4, 2);
        y.put(0, 3, 5);
        y.turn();
        CHECK.due("16: order 1, the highest is -p 1", 32001, () -> y.at(1, 4));
        CHECK.due("16: order 1, p 0 - p 1'", 32000, () -> y.at(0, 3));
        RationalOdes back = new RationalOdes(3);
        for (int i = 0; i <= 3; i++) {
            for (int power = 0; power <= 4; power++) {
                back.put(i, power, 1000 * i + 77 * power + 3);
            }
        }
        back.hand(1, 1);
        back.turn();
        CHECK.due("16: the highest", 32003 - 3003, () -> back.at(3, 0));
        CHECK.due("16: p 2 - 3 p 3' at 0", (int) Plain.mod(2003 - 3 * 3080), () -> back.at(2, 0));
        CHECK.due("16: - p 1 + 2 p 2' - 3 p 3'' at 0",
            (int) Plain.mod(-1003 + 2 * 2080 - 3 * 2 * 3157), () -> back.at(1, 0));
        CHECK.due("16: p 0 - p 1' + p 2'' - p 3''' at 1",
            (int) Plain.mod(80 - 2 * 1157 + 6 * 2234 - 24 * 3311), () -> back.at(0, 1));
        back.turn();
        for (int i = 0; i <= 3; i++) {
            for (int power = 0; power <= 4; power++) {
                int factor = i;
                int at = power;
                CHECK.due("16: twice", 1000 * i + 77 * power + 3, () -> back.at(factor, at));
            }
        }
        CHECK.due("16: x at hand stays: p 0 at 0 and p 1 at 1", 3 + 1080, () -> back.made(1));
    }

    private static void move() {
        RationalOdes x = Equations.legendre(2);
        x.hand(1, 1);
        x.move(3);
        int[] highest = {31995, 31997, 32002, 0, 0};
        for (int power = 0; power <= 4; power++) {
            int at = power;
            CHECK.due("17: 1 - (x + 3)^2", highest[power], () -> x.at(2, at));
        }
        CHECK.due("17: -2 (x + 3)", 31997, () -> x.at(1, 0));
        CHECK.due("17: -2 (x + 3) + 6 x", 4, () -> x.made(1));
        CHECK.due("17: the place 1 is at -2", 32001, () -> x.place(1));
        CHECK.due("17: the place -1 is at -4", 31999, () -> x.place(0));
        CHECK.due("17: the answers move", 6, () -> x.answer(0, 1));
        x.move(32003L * 1000000007L - 3);
        CHECK.due("17: back", 1, () -> x.at(2, 0));
        CHECK.due("17: back, the answers too", 0, () -> x.answer(0, 1));
        RationalOdes y = new RationalOdes(1);
        y.put(1, 4, 1);
        y.move(1);
        int[] want = {1, 4, 6, 4, 1};
        for (int power = 0; power <= 4; power++) {
            int at = power;
            CHECK.due("17: (x + 1)^4", want[power], () -> y.at(1, at));
        }
        y.move(Long.MIN_VALUE);
        y.move(Long.MAX_VALUE);
        CHECK.due("17: the least and the greatest long are -1", 0, () -> y.at(1, 0));
        CHECK.due("17: x^4 again", 1, () -> y.at(1, 4));
    }

    private static void clear() {
        RationalOdes x = Equations.euler();
        x.hand(4, 9);
        CHECK.due("18: before", false, () -> x.solves());
        CHECK.due("18: before, answers", 2, () -> x.answers());
        x.clear();
        for (int i = 0; i <= 3; i++) {
            for (int power = 0; power <= 4; power++) {
                int factor = i;
                int at = power;
                CHECK.due("18: all 0", 0, () -> x.at(factor, at));
            }
        }
        CHECK.due("18: answers", 13, () -> x.answers());
        x.put(0, 0, 1);
        CHECK.due("18: 0 at hand", true, () -> x.solves());
        CHECK.due("18: the order stays", 0, () -> x.at(3, 0));
        CHECK.index("18: the order stays, no factor 4", () -> x.at(4, 0));
    }

    /** Calls that throw, and calls that only ask, leave everything as it was. */
    private static void nothingChanges() {
        RationalOdes x = Equations.legendre(2);
        x.hand(1, 1);
        CHECK.index("put", () -> x.put(2, 5, 9));
        CHECK.index("hand", () -> done(() -> x.hand(13, 9)));
        CHECK.index("take", () -> done(() -> x.take(1)));
        CHECK.arithmetic("series", () -> x.series(1, 1, 1, 1, 1));
        x.level(false, 7);
        x.exponent(false, 7, 0);
        x.series(7, 1, 2, 3, 30);
        x.answers();
        CHECK.due("made after all that", 4, () -> x.made(1));
        CHECK.due("at after all that", 6, () -> x.at(0, 0));
        CHECK.due("place after all that", 1, () -> x.place(0));
        CHECK.due("answer after all that", 21335, () -> x.answer(0, 0));
        CHECK.due("at of the highest after all that", 32002, () -> x.at(2, 2));
    }
}
