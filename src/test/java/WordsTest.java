/** Promises 7 to 12: mean, cost, forget, word, number, clear. */
public final class WordsTest {
    private static final Check CHECK = new Check("WordsTest");
    private static final int[] FAR = {-1, Integer.MIN_VALUE, Integer.MAX_VALUE};

    public static void main(String[] args) {
        sorts();
        wrongMeanings();
        full();
        costs();
        forgetting();
        line();
        CHECK.end();
    }

    private static PlainAsk desk() {
        PlainAsk x = new PlainAsk();
        x.table(4);
        x.table(2);
        return x;
    }

    private static void means(int sort, int where, int c, boolean fits) {
        String call = "mean(39, " + sort + ", " + where + ", " + c + ", 0)";
        PlainAsk x = desk();
        CHECK.due(call, x.mean(39, sort, where, c, 0), fits ? 0 : PlainAsk.NONE);
        CHECK.due("MEANINGS after " + call, x.count(2), fits ? 1 : 0);
    }

    /** The last number of each kind that fits and the first that does not. */
    private static void sorts() {
        means(0, 100, 0, true);
        means(0, 200, 0, false);
        means(0, 101, 0, false);
        means(0, 100, 1, false);
        means(1, 3, 0, true);
        means(1, 4, 0, false);
        means(1, 101, 0, true);
        means(1, 102, 0, false);
        means(1, 200, 0, false);
        means(1, 3, 1, false);
        means(1, 3, -1, false);
        means(2, 300, 0, true);
        means(2, 400, 0, false);
        means(2, 301, 0, false);
        means(2, 300, 1, false);
        means(3, 101, 999, true);
        means(3, 101, -999, true);
        means(3, 101, 1000, false);
        means(3, 101, -1000, false);
        means(3, 102, 0, false);
        means(3, 200, 0, false);
        means(4, 200, 0, true);
        means(4, 300, 0, false);
        means(4, 201, 0, false);
        means(4, 200, 1, false);
        means(5, 0, 0, true);
        means(5, 1, 0, false);
        means(5, 100, 0, false);
        means(5, 0, 1, false);
        means(6, 0, 0, false);
    }

    private static void wrongMeanings() {
        PlainAsk x = desk();
        for (int sort = 0; sort < 6; sort++) {
            for (int far : FAR) {
                CHECK.due("mean, sort " + sort + ", where " + far, x.mean(0, sort, far, 0, 0), PlainAsk.NONE);
                CHECK.due("mean, sort " + sort + ", c " + far, x.mean(0, sort, 0, far, 0),
                    sort == 3 && far == -1 ? 0 : PlainAsk.NONE);
            }
            CHECK.due("mean, sort " + sort + ", where -100", x.mean(0, sort, -100, 0, 0), PlainAsk.NONE);
        }
        for (int far : FAR) {
            CHECK.due("mean, word " + far, x.mean(far, 5, 0, 0, 0), PlainAsk.NONE);
            CHECK.due("mean, sort " + far, x.mean(0, far, 0, 0, 0), PlainAsk.NONE);
            CHECK.due("mean, cost " + far, x.mean(0, 5, 0, 0, far), PlainAsk.NONE);
        }
        CHECK.due("mean, word 40", x.mean(40, 5, 0, 0, 0), PlainAsk.NONE);
        CHECK.due("mean, cost 100", x.mean(0, 5, 0, 0, 100), PlainAsk.NONE);
        CHECK.due("MEANINGS", x.count(2), 1);
    }

    private static void full() {
        PlainAsk x = desk();
        for (int m = 0; m < 3; m++) {
            CHECK.due("mean " + m, x.mean(7, 5, 0, 0, 10 + m), m);
        }
        CHECK.due("a fourth", x.mean(7, 5, 0, 0, 0), PlainAsk.FULL);
        CHECK.due("a wrong fourth", x.mean(7, 6, 0, 0, 0), PlainAsk.NONE);
        CHECK.due("another WORD", x.mean(8, 5, 0, 0, 0), 0);
        for (int w = 0; w < 40; w++) {
            x.forget(w);
            for (int m = 0; m < 3; m++) {
                CHECK.due("mean of all", x.mean(w, 5, 0, 0, w + m), m);
            }
        }
        CHECK.due("MEANINGS of all", x.count(2), 120);
        for (int w = 0; w < 40; w++) {
            for (int m = 0; m < 3; m++) {
                CHECK.due("cost of all", x.cost(w, m), w + m);
            }
        }
    }

    private static void costs() {
        PlainAsk x = desk();
        x.mean(39, 5, 0, 0, 99);
        x.mean(39, 5, 0, 0, 0);
        CHECK.due("cost(39, 0)", x.cost(39, 0), 99);
        CHECK.due("cost(39, 1)", x.cost(39, 1), 0);
        CHECK.due("cost(39, 2)", x.cost(39, 2), PlainAsk.NONE);
        CHECK.due("cost(40, 0)", x.cost(40, 0), PlainAsk.NONE);
        CHECK.due("cost(38, 0)", x.cost(38, 0), PlainAsk.NONE);
        for (int far : FAR) {
            CHECK.due("cost(39, " + far + ")", x.cost(39, far), PlainAsk.NONE);
            CHECK.due("cost(" + far + ", 0)", x.cost(far, 0), PlainAsk.NONE);
        }
    }

    private static void forgetting() {
        PlainAsk x = desk();
        x.mean(3, 0, 100, 0, 4);
        x.mean(3, 5, 0, 0, 5);
        x.mean(4, 5, 0, 0, 6);
        CHECK.due("forget(2)", x.forget(2), 0);
        CHECK.due("forget(40)", x.forget(40), PlainAsk.NONE);
        for (int far : FAR) {
            CHECK.due("forget(" + far + ")", x.forget(far), PlainAsk.NONE);
        }
        x.word(3);
        CHECK.due("readings ahead of forgetting", x.readings(), 1);
        CHECK.due("forget(3)", x.forget(3), 2);
        CHECK.due("cost of what went", x.cost(3, 0), PlainAsk.NONE);
        CHECK.due("cost of another WORD", x.cost(4, 0), 6);
        CHECK.due("THE LINE stays", x.count(1), 1);
        CHECK.due("readings without MEANINGS", x.readings(), 0);
        CHECK.due("forget(3) again", x.forget(3), 0);
        CHECK.due("mean from 0 on", x.mean(3, 0, 0, 0, 9), 0);
        CHECK.due("its cost", x.cost(3, 0), 9);
        CHECK.due("readings again", x.readings(), 1);
    }

    private static void line() {
        PlainAsk x = desk();
        for (int far : FAR) {
            CHECK.due("word(" + far + ")", x.word(far), PlainAsk.NONE);
        }
        for (int v : new int[] {1000, -1000, Integer.MIN_VALUE, Integer.MAX_VALUE}) {
            CHECK.due("number(" + v + ")", x.number(v), PlainAsk.NONE);
        }
        CHECK.due("word(40)", x.word(40), PlainAsk.NONE);
        CHECK.due("TOKENS", x.count(1), 0);
        CHECK.due("word(0)", x.word(0), 1);
        CHECK.due("word(39)", x.word(39), 2);
        CHECK.due("number(999)", x.number(999), 3);
        CHECK.due("number(-999)", x.number(-999), 4);
        for (int n = 5; n <= 8; n++) {
            CHECK.due("word(1)", x.word(1), n);
        }
        CHECK.due("a ninth WORD", x.word(1), PlainAsk.FULL);
        CHECK.due("a ninth NUMBER", x.number(1), PlainAsk.FULL);
        CHECK.due("a ninth wrong WORD", x.word(40), PlainAsk.NONE);
        CHECK.due("a ninth wrong NUMBER", x.number(1000), PlainAsk.NONE);
        CHECK.due("TOKENS", x.count(1), 8);
        CHECK.due("clear()", x.clear(), 8);
        CHECK.due("TOKENS", x.count(1), 0);
        CHECK.due("clear()", x.clear(), 0);
        CHECK.due("number(0)", x.number(0), 1);
        CHECK.due("clear()", x.clear(), 1);
    }
}
