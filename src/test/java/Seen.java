import java.util.ArrayList;
import java.util.List;

/** All that can be seen of an object from outside, as one text. */
final class Seen {
    private final RationalOdes x;
    private final int order;
    private final List<String> rows = new ArrayList<>();

    private Seen(RationalOdes x, int order) {
        this.x = x;
        this.order = order;
    }

    /** The object is used up: what is at hand shows only where the equation makes y of y. */
    static String all(RationalOdes x, int order) {
        Seen seen = new Seen(x, order);
        seen.factors();
        seen.made();
        seen.places();
        seen.there(true, 0);
        seen.there(false, 0);
        seen.there(false, 1);
        seen.base();
        seen.series();
        seen.hand();
        return String.join("\n", seen.rows);
    }

    private void row(String what, Check.Call call) {
        rows.add(what + " " + Check.told(call));
    }

    private void factors() {
        for (int i = 0; i <= order; i++) {
            for (int power = 0; power <= 4; power++) {
                int factor = i;
                int at = power;
                row("at " + i + " " + power, () -> x.at(factor, at));
            }
        }
        row("no factor behind", () -> x.at(order + 1, 0));
    }

    private void made() {
        for (int power = 0; power <= 16; power++) {
            int at = power;
            row("made " + power, () -> x.made(at));
        }
        row("solves", () -> x.solves());
    }

    private void places() {
        row("places", () -> x.places());
        for (int k = 0; k <= 4; k++) {
            int at = k;
            row("place " + k, () -> x.place(at));
        }
    }

    private void there(boolean end, long a) {
        row("level " + end + " " + a, () -> x.level(end, a));
        row("regular " + end + " " + a, () -> x.regular(end, a));
        for (int k = 0; k <= 3; k++) {
            int at = k;
            row("exponent " + end + " " + a + " " + k, () -> x.exponent(end, a, at));
        }
    }

    private void base() {
        int size = x.answers();
        rows.add("answers " + size);
        for (int k = 0; k < size; k++) {
            for (int power = 0; power <= 12; power++) {
                int member = k;
                int at = power;
                row("answer " + k + " " + power, () -> x.answer(member, at));
            }
        }
    }

    private void series() {
        int[] powers = {0, 1, 2, 3, 4, 30};
        for (int power : powers) {
            row("series " + power, () -> x.series(7, 1, 2, 3, power));
        }
    }

    private void hand() {
        for (int i = 0; i <= order; i++) {
            for (int power = 0; power <= 4; power++) {
                x.put(i, power, i == 0 && power == 0 ? 1 : 0);
            }
        }
        for (int power = 0; power <= 12; power++) {
            int at = power;
            row("hand " + power, () -> x.made(at));
        }
    }
}
