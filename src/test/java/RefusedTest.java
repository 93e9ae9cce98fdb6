import java.util.ArrayList;
import java.util.List;
import java.util.function.Supplier;
import java.util.function.ToIntFunction;

/**
 * Part 4: "What is refused changes nothing". Each refused call of each promise is made on a small desk, on a full one
 * and on a new one, as first call behind what made it or behind all questions; what can be seen must stay the same.
 */
public final class RefusedTest {
    private static final Check CHECK = new Check("RefusedTest");
    private static final int NONE = PlainAsk.NONE, FULL = PlainAsk.FULL, NO_VALUE = PlainAsk.NO_VALUE;
    private static final int NOT_THERE = -9;

    private record Call(String name, int due, ToIntFunction<PlainAsk> call) {
    }

    private final String desk;
    private final Supplier<PlainAsk> maker;
    private final List<Call> calls = new ArrayList<>();

    private RefusedTest(String desk, Supplier<PlainAsk> maker) {
        this.desk = desk;
        this.maker = maker;
    }

    public static void main(String[] args) {
        constants();
        onNewDesk();
        onSmallDesk();
        onFullDesk();
        CHECK.end();
    }

    /** Part 4: "NONE (-1) .. FULL (-2); STATE (-3) .. NOTHING is -1000000, NO_VALUE -2000000." */
    private static void constants() {
        CHECK.due("NONE", PlainAsk.NONE, -1);
        CHECK.due("FULL", PlainAsk.FULL, -2);
        CHECK.due("STATE", PlainAsk.STATE, -3);
        CHECK.due("NOTHING", PlainAsk.NOTHING, -1000000);
        CHECK.due("NO_VALUE", PlainAsk.NO_VALUE, -2000000);
    }

    private static void onNewDesk() {
        RefusedTest test = new RefusedTest("new desk", PlainAsk::new);
        test.wrongTables(0);
        test.wrongWords();
        test.wrongMeanings(0);
        test.wrongTokens();
        test.wrongReadings(0);
        test.wrongDistances(0);
        test.run();
    }

    private static void onSmallDesk() {
        RefusedTest test = new RefusedTest("small desk", RefusedTest::small);
        test.wrongTables(2);
        test.wrongCells(3, 2);
        test.wrongLinks(2, 2);
        test.wrongWords();
        test.wrongMeanings(2);
        test.wrongTokens();
        test.wrongReadings(6);
        test.wrongTests(2);
        test.wrongDistances(6);
        test.run();
    }

    private static void onFullDesk() {
        RefusedTest test = new RefusedTest("full desk", RefusedTest::full);
        test.wrongTables(4);
        test.wrongCells(20, 4);
        test.wrongLinks(4, 4);
        test.wrongWords();
        test.wrongMeanings(4);
        test.wrongTokens();
        test.wrongReadings(9);
        test.wrongTests(2);
        test.wrongDistances(8);
        test.whatIsFull();
        test.run();
    }

    /** Two TABLES of 2 and 1 COLUMNS with 3 and 1 ROWS; THE LINE of 6 TOKENS has 6 READINGS with 2 TESTS each. */
    private static PlainAsk small() {
        PlainAsk x = Desks.tables(2, 1);
        Desks.fill(x, 0, new int[][] {{5, 0}, {6, 1}, {-1000, 0}});
        Desks.fill(x, 1, new int[][] {{9}});
        x.link(0, 1, 1);
        x.mean(0, 0, 0, 0, 3);
        x.mean(1, 3, 100, 9, 2);
        x.mean(1, 3, 0, 6, 4);
        x.mean(1, 3, 1, 0, 6);
        x.mean(2, 1, 0, 0, 0);
        x.mean(2, 5, 0, 0, 0);
        x.mean(3, 4, 0, 0, 1);
        x.mean(3, 4, 100, 0, 1);
        Desks.ask(x, "1 0 2 3 #5 2");
        return x;
    }

    /** Four TABLES, 20 ROWS of TABLE 0, three MEANINGS of WORDS 1 and 7, eight TOKENS: 9 READINGS with 2 TESTS each. */
    private static PlainAsk full() {
        PlainAsk x = Desks.tables(4, 4, 4, 4);
        for (int r = 0; r < 20; r++) {
            x.row(0);
            x.put(0, r, 0, 7 * r % 5);
            x.put(0, r, 3, r % 4);
        }
        for (int t = 1; t < 4; t++) {
            x.row(t);
            x.put(t, 0, 0, t);
            x.link(0, 4 - t, t);
        }
        x.mean(0, 0, 0, 0, 0);
        x.mean(1, 3, 0, 1, 2);
        x.mean(1, 3, 100, 1, 0);
        x.mean(1, 3, 3, 3, 9);
        x.mean(7, 4, 0, 0, 1);
        x.mean(7, 4, 100, 0, 1);
        x.mean(7, 4, 200, 0, 0);
        x.mean(8, 1, 0, 0, 0);
        x.mean(9, 5, 0, 0, 5);
        x.mean(9, 5, 0, 0, 6);
        x.mean(10, 5, 0, 0, 99);
        Desks.ask(x, "0 1 8 7 #2 10 10 10");
        // What WORD 8 has meant once must not come back.
        x.mean(8, 1, 3, 0, 99);
        x.mean(8, 1, 100, 0, 98);
        x.forget(8);
        x.mean(8, 1, 0, 0, 0);
        return x;
    }

    private void add(String name, int due, ToIntFunction<PlainAsk> call) {
        calls.add(new Call(name, due, call));
    }

    private void wrongTables(int made) {
        for (int columns : Ints.outside(1, 4)) {
            add("table(" + columns + ")", NONE, x -> x.table(columns));
        }
        for (int t : Ints.outside(0, made - 1)) {
            add("row(" + t + ")", NONE, x -> x.row(t));
            add("put(" + t + ", 0, 0, 1)", NONE, x -> x.put(t, 0, 0, 1));
            add("value(" + t + ", 0, 0)", NO_VALUE, x -> x.value(t, 0, 0));
            add("link(" + t + ", 0, -1)", NOT_THERE, x -> x.link(t, 0, -1));
            add("link(" + t + ", 0, 0)", NOT_THERE, x -> x.link(t, 0, 0));
        }
    }

    private void wrongCells(int rows, int columns) {
        for (int r : Ints.outside(0, rows - 1)) {
            add("put(0, " + r + ", 0, 1)", NONE, x -> x.put(0, r, 0, 1));
            add("put(0, " + r + ", 0, -1000)", NONE, x -> x.put(0, r, 0, -1000));
            add("value(0, " + r + ", 0)", NO_VALUE, x -> x.value(0, r, 0));
        }
        for (int c : Ints.outside(0, columns - 1)) {
            add("put(0, 0, " + c + ", 1)", NONE, x -> x.put(0, 0, c, 1));
            add("put(0, 0, " + c + ", -1000)", NONE, x -> x.put(0, 0, c, -1000));
            add("value(0, 0, " + c + ")", NO_VALUE, x -> x.value(0, 0, c));
        }
        for (int v : Ints.outside(-1000, 999)) {
            add("put(0, 0, 0, " + v + ")", NONE, x -> x.put(0, 0, 0, v));
            add("put(0, 1, 1, " + v + ")", NONE, x -> x.put(0, 1, 1, v));
        }
    }

    private void wrongLinks(int tables, int columns) {
        for (int c : Ints.outside(0, columns - 1)) {
            add("link(0, " + c + ", 1)", NOT_THERE, x -> x.link(0, c, 1));
            add("link(0, " + c + ", -1)", NOT_THERE, x -> x.link(0, c, -1));
        }
        for (int to : Ints.outside(-1, tables - 1)) {
            add("link(0, 1, " + to + ")", NOT_THERE, x -> x.link(0, 1, to));
        }
        add("link(0, 1, 0)", NOT_THERE, x -> x.link(0, 1, 0));
        add("link(1, 0, 1)", NOT_THERE, x -> x.link(1, 0, 1));
    }

    private void wrongWords() {
        for (int w : Ints.outside(0, 39)) {
            add("mean(" + w + ", 5, 0, 0, 0)", NONE, x -> x.mean(w, 5, 0, 0, 0));
            add("cost(" + w + ", 0)", NONE, x -> x.cost(w, 0));
            add("forget(" + w + ")", NONE, x -> x.forget(w));
        }
        for (int m : Ints.outside(0, 2)) {
            add("cost(1, " + m + ")", NONE, x -> x.cost(1, m));
        }
        for (int what : Ints.outside(0, 2)) {
            add("count(" + what + ")", NONE, x -> x.count(what));
        }
    }

    /** Of WORD 20, which has none, and of WORD 1, which has three on two of the desks. */
    private void wrongMeanings(int tables) {
        for (int w : new int[] {20, 1}) {
            for (int sort : Ints.outside(0, 5)) {
                wrongMeaning(w, sort, 0, 0, 0);
            }
            for (int cost : Ints.outside(0, 99)) {
                wrongMeaning(w, 5, 0, 0, cost);
            }
            for (int where : new int[] {-1, -100, 100 * tables, 100 * tables + 1, 99, Ints.LEAST, Ints.GREATEST}) {
                wrongMeaning(w, 0, where, 0, 0);
                wrongMeaning(w, 1, where, 0, 0);
                wrongMeaning(w, 3, where, 5, 0);
            }
            wrongMeaning(w, 2, 400, 0, 0);
            wrongMeaning(w, 4, 300, 0, 0);
            wrongMeaning(w, 5, 100, 0, 0);
            for (int sort = 0; sort < 6; sort++) {
                wrongMeaning(w, sort, 0, 1000, 0);
                wrongMeaning(w, sort, 0, Ints.LEAST, 0);
            }
        }
    }

    private void wrongMeaning(int w, int sort, int where, int c, int cost) {
        add("mean(" + w + ", " + sort + ", " + where + ", " + c + ", " + cost + ")", NONE,
            x -> x.mean(w, sort, where, c, cost));
    }

    private void wrongTokens() {
        for (int w : Ints.outside(0, 39)) {
            add("word(" + w + ")", NONE, x -> x.word(w));
        }
        for (int v : Ints.outside(-999, 999)) {
            add("number(" + v + ")", NONE, x -> x.number(v));
        }
    }

    private void wrongReadings(int readings) {
        CHECK.due(desk + ": READINGS", maker.get().readings(), readings);
        for (int i : Ints.outside(0, readings - 1)) {
            add("reading(" + i + ", 0)", NOT_THERE, x -> x.reading(i, 0));
            add("test(" + i + ", 0, 0)", NO_VALUE, x -> x.test(i, 0, 0));
            add("answer(" + i + ")", NO_VALUE, x -> x.answer(i));
            add("found(" + i + ", 0)", NONE, x -> x.found(i, 0));
            add("take(" + i + ")", NONE, x -> x.take(i));
            add("why(" + i + ")", NONE, x -> x.why(i));
        }
    }

    private void wrongTests(int tests) {
        CHECK.due(desk + ": TESTS", maker.get().reading(0, 4), tests);
        for (int k : Ints.outside(0, tests - 1)) {
            add("test(0, " + k + ", 0)", NO_VALUE, x -> x.test(0, k, 0));
        }
        for (int what : Ints.outside(0, 3)) {
            add("test(0, 0, " + what + ")", NO_VALUE, x -> x.test(0, 0, what));
        }
        for (int what : new int[] {-1, 6, 9, 18, Ints.LEAST, Ints.GREATEST}) {
            add("reading(0, " + what + ")", NOT_THERE, x -> x.reading(0, what));
        }
        for (int k : Ints.outside(0, 19)) {
            add("found(0, " + k + ")", NONE, x -> x.found(0, k));
        }
    }

    private void wrongDistances(int tokens) {
        CHECK.due(desk + ": TOKENS", maker.get().count(1), tokens);
        for (int d : Ints.outside(0, 1000)) {
            add("answers(" + d + ")", NONE, x -> x.answers(d));
            add("back(" + d + ")", NONE, x -> x.back(d));
            add("agree(" + d + ", 0, 0)", NONE, x -> x.agree(d, 0, 0));
        }
        for (int place : Ints.outside(0, tokens - 1)) {
            add("agree(0, " + place + ", 0)", NONE, x -> x.agree(0, place, 0));
        }
        if (tokens > 0) {
            add("agree(0, 4, 0)", NONE, x -> x.agree(0, 4, 0));
        }
    }

    private void whatIsFull() {
        for (int columns = 1; columns <= 4; columns++) {
            int n = columns;
            add("table(" + n + ")", FULL, x -> x.table(n));
        }
        add("row(0)", FULL, x -> x.row(0));
        for (int w : new int[] {1, 7}) {
            add("mean(" + w + ", 5, 0, 0, 0)", FULL, x -> x.mean(w, 5, 0, 0, 0));
            add("mean(" + w + ", 3, 303, 999, 99)", FULL, x -> x.mean(w, 3, 303, 999, 99));
        }
        for (int w : new int[] {0, 1, 20, 39}) {
            add("word(" + w + ")", FULL, x -> x.word(w));
        }
        for (int v : new int[] {-999, 0, 999}) {
            add("number(" + v + ")", FULL, x -> x.number(v));
        }
    }

    private void run() {
        List<String> before = Look.at(maker);
        for (Call call : calls) {
            String name = desk + ": " + call.name();
            CHECK.due(name, call.call().applyAsInt(maker.get()), call.due());
            String cold = Look.difference(before, Look.at(() -> refused(maker.get(), call)));
            CHECK.holds(name + " changes nothing (" + cold + ")", cold == null);
            String warm = Look.difference(before, Look.at(() -> refused(asked(maker.get()), call)));
            CHECK.holds(name + " behind questions changes nothing (" + warm + ")", warm == null);
        }
        String all = Look.difference(before, Look.at(this::allRefused));
        CHECK.holds(desk + ": all refusals together change nothing (" + all + ")", all == null);
    }

    private static PlainAsk refused(PlainAsk x, Call call) {
        call.call().applyAsInt(x);
        return x;
    }

    private static PlainAsk asked(PlainAsk x) {
        x.answers(1000);
        x.back(1000);
        x.answer(0);
        x.why(0);
        return x;
    }

    /** Each third call only, so that looking ends within 512 calls. */
    private PlainAsk allRefused() {
        PlainAsk x = maker.get();
        for (int n = 0; n < calls.size(); n += 3) {
            calls.get(n).call().applyAsInt(x);
        }
        return x;
    }
}
