import java.util.ArrayList;
import java.util.List;
import java.util.function.Consumer;
import java.util.function.Supplier;

/**
 * All that can be seen of a desk, by calls alone. As looking takes many calls,
 * and some of them change the desk, each kind of look has a desk of its own
 * from the same maker, which may take some 120 calls itself.
 */
final class Look {
    private final List<String> seen = new ArrayList<>();

    private Look(Supplier<PlainAsk> maker) {
        with(maker, this::values);
        with(maker, this::links);
        with(maker, this::costs);
        with(maker, this::forms);
        with(maker, this::finds);
        with(maker, this::doubts);
        with(maker, this::nextTables);
        with(maker, this::nextRows);
        with(maker, this::nextMeanings);
        with(maker, this::nextTokens);
        with(maker, this::forgotten);
        with(maker, this::taken);
    }

    static List<String> at(Supplier<PlainAsk> maker) {
        return new Look(maker).seen;
    }

    /** The first sight in which two looks differ, or null. */
    static String difference(List<String> one, List<String> other) {
        for (int n = 0; n < Math.max(one.size(), other.size()); n++) {
            String a = n < one.size() ? one.get(n) : "nothing";
            String b = n < other.size() ? other.get(n) : "nothing";
            if (!a.equals(b)) {
                return a + " became " + b;
            }
        }
        return null;
    }

    private static void with(Supplier<PlainAsk> maker, Consumer<PlainAsk> kind) {
        kind.accept(maker.get());
    }

    private void see(String call, int answer) {
        seen.add(call + " = " + answer);
    }

    private void values(PlainAsk x) {
        for (int n = 0; n < 320; n++) {
            see("value " + n, x.value(n / 80, n / 4 % 20, n % 4));
        }
        for (int what = 0; what < 3; what++) {
            see("count(" + what + ")", x.count(what));
        }
    }

    private void links(PlainAsk x) {
        for (int n = 0; n < 16; n++) {
            see("link of " + n, x.link(n / 4, n % 4, -1));
        }
    }

    private void costs(PlainAsk x) {
        for (int n = 0; n < 120; n++) {
            see("cost " + n, x.cost(n / 3, n % 3));
        }
    }

    private void forms(PlainAsk x) {
        see("readings()", x.readings());
        for (int i = 0; i < 6; i++) {
            for (int what = 0; what < 18; what++) {
                see("reading(" + i + ", " + what + ")", x.reading(i, what));
            }
            for (int n = 0; n < 16; n++) {
                see("test " + n + " of " + i, x.test(i, n / 4, n % 4));
            }
        }
    }

    private void finds(PlainAsk x) {
        for (int i = 0; i < 20; i++) {
            see("answer(" + i + ")", x.answer(i));
            see("why(" + i + ")", x.why(i));
            see("found(" + i + ", 0)", x.found(i, 0));
            see("found(" + i + ", 1)", x.found(i, 1));
        }
    }

    private void doubts(PlainAsk x) {
        for (int d = 0; d < 30; d++) {
            see("answers(" + d + ")", x.answers(d));
            see("back(" + d + ")", x.back(d));
        }
        for (int n = 0; n < 24; n++) {
            see("agree " + n, x.agree(5, n / 3, n % 3));
        }
    }

    private void nextTables(PlainAsk x) {
        for (int n = 0; n < 5; n++) {
            see("table " + n, x.table(1));
        }
    }

    private void nextRows(PlainAsk x) {
        for (int n = 0; n < 8; n++) {
            see("row of " + n / 2, x.row(n / 2));
        }
        for (int t = 0; t < 4; t++) {
            see("value of the last row of " + t, x.value(t, 19, 0));
        }
    }

    private void nextMeanings(PlainAsk x) {
        for (int w = 0; w < 40; w++) {
            see("mean of " + w, x.mean(w, 5, 0, 0, 0));
        }
        see("count(2)", x.count(2));
    }

    private void nextTokens(PlainAsk x) {
        see("word(0)", x.word(0));
        see("number(0)", x.number(0));
        see("readings()", x.readings());
        see("clear()", x.clear());
        see("word(0) again", x.word(0));
        see("readings() again", x.readings());
    }

    private void forgotten(PlainAsk x) {
        for (int w = 0; w < 40; w++) {
            see("forget " + w, x.forget(w));
        }
        see("count(2) of all forgotten", x.count(2));
    }

    private void taken(PlainAsk x) {
        see("take(1)", x.take(1));
        for (int n = 0; n < 120; n++) {
            see("cost " + n + " when taken", x.cost(n / 3, n % 3));
        }
        see("answer(0) when taken", x.answer(0));
    }
}
