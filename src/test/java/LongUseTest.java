import java.util.List;

/** The head of the document (512 calls) and part 4 ("All memory is the class's own"). */
public final class LongUseTest {
    private static final Check CHECK = new Check("LongUseTest");
    private static final int CALLS = 512;

    private final PlainAsk x = new PlainAsk();
    private int calls = 0;

    public static void main(String[] args) {
        new LongUseTest().fullTables();
        new LongUseTest().takenAgainAndAgain();
        new LongUseTest().dearestDoubts();
        new LongUseTest().refusedAgainAndAgain();
        new LongUseTest().saidAgainAndAgain();
        ownMemory();
        CHECK.end();
    }

    private void due(String call, int got, int want) {
        calls++;
        CHECK.due("call " + calls + ": " + call, got, want);
    }

    private void end(String name) {
        CHECK.due("calls of " + name, calls, CALLS);
    }

    /** "An object is used for at most 512 calls": here for 414 that fill it, one question, and 97 that look again. */
    private void fullTables() {
        for (int t = 0; t < 4; t++) {
            due("table", x.table(4), t);
        }
        for (int n = 0; n < 320; n++) {
            if (n % 4 == 0) {
                due("row", x.row(n / 80), n / 4 % 20);
            }
            due("put", x.put(n / 80, n / 4 % 20, n % 4, n % 20), 1);
        }
        for (int t = 1; t < 4; t++) {
            due("link", x.link(0, t, t), -1);
        }
        due("a TABLE", x.mean(0, 0, 0, 0, 1), 0);
        due("a COLUMN", x.mean(1, 1, 303, 0, 1), 0);
        due("above", x.mean(2, 4, 0, 0, 1), 0);
        due("word", x.word(0), 1);
        due("word", x.word(1), 2);
        due("word", x.word(2), 3);
        due("number", x.number(14), 4);
        // By COLUMN 3 four ROWS each lead to the ROWS 3, 7, 11, 15 and 19 of TABLE 3, where 15, 11, 7, 3 and 19 stand.
        due("answer", x.answer(0), 8);
        for (int n = 319; calls < CALLS; n--) {
            due("value", x.value(n / 80, n / 4 % 20, n % 4), n % 20);
        }
        end("fullTables");
    }

    /** COSTS that have come to their ends stay there, up to the last call. */
    private void takenAgainAndAgain() {
        due("table", x.table(1), 0);
        due("a TABLE", x.mean(0, 0, 0, 0, 99), 0);
        due("NOISE", x.mean(1, 5, 0, 0, 50), 0);
        due("NOISE", x.mean(1, 5, 0, 0, 50), 1);
        due("word", x.word(0), 1);
        due("word", x.word(1), 2);
        for (int n = 1; n <= 251; n++) {
            due("take", x.take(0), n <= 49 ? 3 : n == 50 ? 2 : n <= 99 ? 1 : 0);
            due("COST of the READING", x.reading(0, 0), Math.max(99 - n, 0) + Math.max(50 - n, 0));
        }
        due("COST of the TABLE", x.cost(0, 0), 0);
        due("COST of the taken NOISE", x.cost(1, 0), 0);
        due("COST of the other NOISE", x.cost(1, 1), 99);
        due("the other one", x.take(1), 2);
        end("takenAgainAndAgain");
    }

    /** 6561 READINGS, with a change ahead of each question. */
    private void dearestDoubts() {
        due("table", x.table(3), 0);
        for (int m = 0; m < 3; m++) {
            due("DOING", x.mean(0, 2, 100 * (m + 1), 0, m), m);
            due("COLUMN", x.mean(1, 1, m, 0, 0), m);
            due("NOISE", x.mean(2, 5, 0, 0, 0), m);
        }
        for (int n = 0; n < 8; n++) {
            due("word", x.word(Math.min(n, 2)), n + 1);
        }
        due("row", x.row(0), 0);
        for (int n = 0; calls < CALLS - 1; n++) {
            int v = n % 100;
            due("put", x.put(0, 0, 0, v), 1);
            due("answers", x.answers(1000), v == 0 ? 2 : 3);
            if (calls < CALLS - 1) {
                due("back", x.back(0), 1);
            }
        }
        due("agree", x.agree(1000, 7, 2), 2187);
        end("dearestDoubts");
    }

    private void refusedAgainAndAgain() {
        due("table", x.table(1), 0);
        due("a TABLE", x.mean(0, 0, 0, 0, 0), 0);
        for (int n = 0; n < 8; n++) {
            due("word", x.word(0), n + 1);
        }
        while (calls < CALLS - 2) {
            due("word", x.word(0), PlainAsk.FULL);
        }
        due("TOKENS", x.count(1), 8);
        due("clear", x.clear(), 8);
        end("refusedAgainAndAgain");
    }

    private void saidAgainAndAgain() {
        due("table", x.table(1), 0);
        due("a TABLE", x.mean(0, 0, 0, 0, 0), 0);
        while (calls < CALLS - 6) {
            due("word", x.word(0), 1);
            due("readings", x.readings(), 1);
            due("word", x.word(0), 2);
            due("readings", x.readings(), 0);
            due("clear", x.clear(), 2);
        }
        while (calls < CALLS) {
            due("clear", x.clear(), 0);
        }
        end("saidAgainAndAgain");
    }

    /** "All memory is the class's own": what is told to one desk is not known to another one. */
    private static void ownMemory() {
        List<String> alone = Look.at(LongUseTest::one);
        String behind = Look.difference(alone, Look.at(() -> {
            PlainAsk x = one();
            askAll(other());
            return x;
        }));
        CHECK.holds("one desk is not changed by another one (" + behind + ")", behind == null);
        String ahead = Look.difference(alone, Look.at(() -> {
            askAll(other());
            return one();
        }));
        CHECK.holds("nor by one that was there ahead (" + ahead + ")", ahead == null);
        PlainAsk x = one();
        PlainAsk y = other();
        for (int n = 0; n < 5; n++) {
            CHECK.due("one by turns", x.answer(0), 2);
            CHECK.due("other by turns", y.answer(0), 7);
            CHECK.due("one by turns", x.answers(1000), 2);
            CHECK.due("other by turns", y.answers(1000), 1);
        }
    }

    private static PlainAsk one() {
        PlainAsk x = Desks.tables(1);
        Desks.fill(x, 0, new int[][] {{1}, {1}, {2}});
        x.mean(0, 0, 0, 0, 3);
        x.mean(1, 3, 0, 1, 0);
        x.mean(1, 3, 0, 2, 4);
        Desks.ask(x, "0 1");
        return x;
    }

    private static PlainAsk other() {
        PlainAsk x = Desks.tables(4, 3);
        Desks.fill(x, 0, new int[][] {{7, 0, 0, 0}});
        x.link(0, 2, 1);
        x.mean(0, 2, 200, 0, 9);
        x.mean(1, 1, 0, 0, 8);
        Desks.ask(x, "1 0");
        return x;
    }

    private static void askAll(PlainAsk x) {
        x.answers(1000);
        x.back(1000);
        x.take(0);
        x.why(0);
        x.put(0, 0, 0, 8);
        x.answers(1000);
    }
}
