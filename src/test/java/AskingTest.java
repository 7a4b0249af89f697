import java.util.function.Consumer;
import java.util.function.Supplier;

/** Calls that only ask leave everything as it was, and what they answer follows each later change. */
public final class AskingTest {
    private static final Check CHECK = new Check();

    public static void main(String[] args) {
        in("Legendre", 2, () -> Equations.legendre(2));
        in("Euler", 3, Equations::euler);
        in("x y' - 12 y", 1, () -> Equations.power(12));
        for (int r = 1; r <= 3; r++) {
            int order = r;
            in("full, order " + r, r, () -> Equations.full(order));
            in("four places, order " + r, r, () -> fourPlaces(order));
        }
        CHECK.end();
    }

    private static RationalOdes fourPlaces(int order) {
        RationalOdes x = new RationalOdes(order);
        Equations.factor(x, order, 24, -50, 35, -10, 1);
        return x;
    }

    private static void in(String name, int order, Supplier<RationalOdes> equation) {
        Supplier<RationalOdes> make = () -> {
            RationalOdes x = equation.get();
            Equations.hand(x, 3, 1, 4, 1, 5);
            return x;
        };
        eachAsk(name, order, make);
        eachChange(name, order, make);
    }

    private static void eachAsk(String name, int order, Supplier<RationalOdes> make) {
        same(name + ", at", order, make, x -> x.at(order, 4), x -> { });
        same(name + ", made", order, make, x -> x.made(2), x -> { });
        same(name + ", places", order, make, RationalOdes::places, x -> { });
        same(name + ", level", order, make, x -> x.level(false, 9), x -> { });
        same(name + ", level without end", order, make, x -> x.level(true, 9), x -> { });
        same(name + ", regular", order, make, x -> x.regular(false, 9), x -> { });
        same(name + ", exponent", order, make, x -> x.exponent(false, 9, 0), x -> { });
        same(name + ", exponent without end", order, make, x -> x.exponent(true, 9, 0), x -> { });
        same(name + ", answers", order, make, RationalOdes::answers, x -> { });
        same(name + ", solves", order, make, RationalOdes::solves, x -> { });
        same(name + ", series", order, make, x -> x.series(9, 7, 8, 9, 30), x -> { });
        same(name + ", all", order, make, AskingTest::askAll, x -> { });
    }

    private static void eachChange(String name, int order, Supplier<RationalOdes> make) {
        for (int i = 0; i <= order; i++) {
            int factor = i;
            same(name + ", put low in " + i, order, make, AskingTest::askAll, x -> x.put(factor, 0, 30));
            same(name + ", put high in " + i, order, make, AskingTest::askAll, x -> x.put(factor, 4, 30));
        }
        same(name + ", hand", order, make, AskingTest::askAll, x -> x.hand(12, 30));
        same(name + ", turn", order, make, AskingTest::askAll, RationalOdes::turn);
        same(name + ", move", order, make, AskingTest::askAll, x -> x.move(30));
        same(name + ", clear", order, make, AskingTest::askAll, RationalOdes::clear);
        same(name + ", take", order, make, AskingTest::askAll, AskingTest::takeIfAny);
        same(name + ", take, then another hand", order, make, AskingTest::askAll, x -> {
            takeIfAny(x);
            x.hand(0, 30);
        });
    }

    private static void takeIfAny(RationalOdes x) {
        if (x.answers() > 0) {
            x.take(0);
        }
    }

    private static void askAll(RationalOdes x) {
        x.made(1);
        x.places();
        Check.told(() -> x.place(0));
        x.regular(false, 1);
        x.exponent(false, 1, 0);
        x.exponent(true, 0, 0);
        Check.told(() -> x.answer(0, 0));
        x.solves();
        x.series(7, 1, 2, 3, 30);
    }

    private static void same(String what, int order, Supplier<RationalOdes> make, Consumer<RationalOdes> ask,
            Consumer<RationalOdes> change) {
        RationalOdes asked = make.get();
        ask.accept(asked);
        change.accept(asked);
        RationalOdes silent = make.get();
        change.accept(silent);
        String want = Seen.all(silent, order);
        CHECK.due(what, want, () -> Seen.all(asked, order));
    }
}
