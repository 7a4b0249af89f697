import java.util.function.Consumer;

/** "An object is used for at most 512 calls": one kind of call fills all but the last of them. */
public final class LongUseTest {
    private static final int CALLS = 512;
    private static final Check CHECK = new Check();

    public static void main(String[] args) {
        changes();
        asks();
        refused();
        growsAllTheTime();
        CHECK.end();
    }

    private static void last(String what, RationalOdes x, int used, Consumer<RationalOdes> call, Object want,
            Check.Call last) {
        for (int n = used; n < CALLS - 1; n++) {
            CHECK.due(what, "done", () -> {
                call.accept(x);
                return "done";
            });
        }
        CHECK.due(what + ", the last call", want, last);
    }

    private static void changes() {
        RationalOdes turned = Equations.full(3);
        last("turn, an odd time", turned, 20, RationalOdes::turn, Plain.mod(-Equations.fullAt(3, 4)),
            () -> turned.at(3, 4));
        RationalOdes moved = Equations.power(3);
        last("move", moved, 3, x -> x.move(1), CALLS - 4, () -> moved.at(1, 0));
        RationalOdes cleared = Equations.full(2);
        last("clear", cleared, 15, RationalOdes::clear, 13, () -> cleared.answers());
        RationalOdes taken = Equations.power(12);
        last("take", taken, 3, x -> x.take(0), true, () -> taken.solves());
        RationalOdes handed = Equations.power(12);
        last("hand", handed, 3, x -> x.hand(12, 77), 0, () -> handed.made(12));
        RationalOdes put = Equations.power(12);
        last("put", put, 3, x -> x.put(1, 4, 77), 77, () -> put.at(1, 4));
    }

    private static void asks() {
        RationalOdes x = Equations.legendre(12);
        last("at", x, 6, y -> y.at(0, 0), 156, () -> x.at(0, 0));
        RationalOdes made = Equations.legendre(12);
        last("made", made, 6, y -> y.made(16), 0, () -> made.made(16));
        RationalOdes places = Equations.legendre(12);
        last("places", places, 6, RationalOdes::places, 2, () -> places.places());
        RationalOdes place = Equations.legendre(12);
        last("place", place, 6, y -> y.place(1), 32002, () -> place.place(1));
        RationalOdes level = Equations.legendre(12);
        last("level", level, 6, y -> y.level(false, 1), -1, () -> level.level(false, 1));
        RationalOdes regular = Equations.legendre(12);
        last("regular", regular, 6, y -> y.regular(true, 0), true, () -> regular.regular(true, 0));
        RationalOdes exponent = Equations.legendre(12);
        last("exponent", exponent, 6, y -> y.exponent(true, 0, 1), 12, () -> exponent.exponent(true, 0, 0));
        RationalOdes answers = Equations.legendre(12);
        last("answers", answers, 6, RationalOdes::answers, 1, () -> answers.answers());
        RationalOdes answer = Equations.legendre(12);
        last("answer", answer, 6, y -> y.answer(0, 0), 1, () -> answer.answer(0, 12));
        RationalOdes solves = Equations.legendre(12);
        last("solves", solves, 6, RationalOdes::solves, true, () -> solves.solves());
        RationalOdes series = Equations.euler();
        last("series", series, 10, y -> y.series(1, 1, 1, 0, 30), 0, () -> series.series(1, 1, 1, 0, 2));
    }

    private static void refused() {
        RationalOdes x = new RationalOdes(2);
        for (int n = 0; n < 100; n++) {
            CHECK.state("places", () -> x.places());
            CHECK.state("level", () -> x.level(false, 0));
            CHECK.index("put", () -> x.put(3, 0, 1));
            CHECK.index("answer", () -> x.answer(13, 0));
            CHECK.arithmetic("series", () -> x.series(0, 0, 0, 0, 0));
        }
        CHECK.due("put behind 500 refused calls", true, () -> x.put(2, 1, 1));
        CHECK.due("places behind 500 refused calls", 1, () -> x.places());
        CHECK.due("answers behind 500 refused calls", 2, () -> x.answers());
    }

    /** x^n for every n, so that the base is another one at each call that asks for it. */
    private static void growsAllTheTime() {
        RationalOdes x = Equations.power(0);
        for (int n = 0; n < 169; n++) {
            int power = n % 13;
            CHECK.due("put behind " + n, n > 0, () -> x.put(0, 0, -power));
            CHECK.due("answer behind " + n, 1, () -> x.answer(0, power));
            CHECK.due("exponent behind " + n, power, () -> x.exponent(false, 0, 0));
        }
    }
}
