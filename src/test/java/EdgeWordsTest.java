/** The edges of the WORDS and TOKENS of part 2 and of promises 7 to 12 and 23, the document's words above each test. */
public final class EdgeWordsTest {
    private static final Check CHECK = new Check("EdgeWordsTest");
    private static final int NONE = PlainAsk.NONE, FULL = PlainAsk.FULL;
    private static final int TABLE = 0, COLUMN = 1, DOING = 2, VALUE = 3, THAN = 4, NOISE = 5;

    public static void main(String[] args) {
        fortyWords();
        threeMeanings();
        meaningsOfEachWord();
        costRange();
        sixSorts();
        tableOfAMeaning();
        columnOfAMeaning();
        fourDoings();
        valueOfAMeaning();
        threeThans();
        numbersThatASortDoesNotHave();
        where();
        noneAheadOfFull();
        costOfAMeaning();
        forgetting();
        eightTokens();
        wordRefused();
        numberRange();
        noneAheadOfFullLine();
        clearing();
        counting();
        CHECK.end();
    }

    /** Four TABLES with 1, 4, 2 and 4 COLUMNS. */
    private static PlainAsk desk() {
        return Desks.tables(1, 4, 2, 4);
    }

    private static void means(int sort, int where, int c, boolean fits) {
        String call = "mean(7, " + sort + ", " + where + ", " + c + ", 0)";
        PlainAsk x = desk();
        CHECK.due(call, x.mean(7, sort, where, c, 0), fits ? 0 : NONE);
        CHECK.due("MEANINGS after " + call, x.count(2), fits ? 1 : 0);
    }

    /** "WORDS 0 .. 39", in each call that names one. */
    private static void fortyWords() {
        for (int w : new int[] {0, 1, 38, 39}) {
            PlainAsk x = desk();
            CHECK.due("mean of WORD " + w, x.mean(w, NOISE, 0, 0, 3), 0);
            CHECK.due("cost of WORD " + w, x.cost(w, 0), 3);
            CHECK.due("forget(" + w + ")", x.forget(w), 1);
            CHECK.due("word(" + w + ")", x.word(w), 1);
        }
        for (int w : Ints.outside(0, 39)) {
            PlainAsk x = desk();
            CHECK.due("mean of WORD " + w, x.mean(w, NOISE, 0, 0, 3), NONE);
            CHECK.due("cost of WORD " + w, x.cost(w, 0), NONE);
            CHECK.due("forget(" + w + ")", x.forget(w), NONE);
            CHECK.due("word(" + w + ")", x.word(w), NONE);
            CHECK.due("MEANINGS", x.count(2), 0);
            CHECK.due("TOKENS", x.count(1), 0);
        }
    }

    /** "MEANINGS, at most 3, numbered from 0 on as they were told"; promise 7: "its number .. FULL." */
    private static void threeMeanings() {
        PlainAsk x = desk();
        for (int m = 0; m < 3; m++) {
            CHECK.due("MEANING " + m, x.mean(7, NOISE, 0, 0, 30 - m), m);
        }
        for (int again = 0; again < 3; again++) {
            CHECK.due("a fourth MEANING", x.mean(7, NOISE, 0, 0, 1), FULL);
            CHECK.due("a fourth MEANING of another SORT", x.mean(7, VALUE, 103, 9, 1), FULL);
        }
        for (int m = 0; m < 3; m++) {
            CHECK.due("COST of MEANING " + m, x.cost(7, m), 30 - m);
        }
        CHECK.due("COST of a fourth", x.cost(7, 3), NONE);
        CHECK.due("the WORDS beside it", x.cost(8, 0), NONE);
        CHECK.due("the WORDS beside it", x.cost(6, 0), NONE);
        CHECK.due("MEANINGS", x.count(2), 3);
    }

    /** "MEANINGS, at most 3", of each WORD: all 120 at once. */
    private static void meaningsOfEachWord() {
        PlainAsk x = desk();
        for (int n = 0; n < 120; n++) {
            CHECK.due("MEANING " + n, x.mean(n % 40, NOISE, 0, 0, n % 97), n / 40);
        }
        CHECK.due("MEANINGS of all", x.count(2), 120);
        for (int n = 0; n < 120; n++) {
            CHECK.due("COST " + n, x.cost(n % 40, n / 40), n % 97);
        }
        for (int w = 0; w < 40; w++) {
            CHECK.due("a fourth of WORD " + w, x.mean(w, NOISE, 0, 0, 0), FULL);
        }
    }

    /** "a COST (0 .. 99)". */
    private static void costRange() {
        for (int cost : new int[] {0, 1, 98, 99}) {
            PlainAsk x = desk();
            CHECK.due("mean with COST " + cost, x.mean(7, NOISE, 0, 0, cost), 0);
            CHECK.due("COST " + cost, x.cost(7, 0), cost);
        }
        for (int cost : Ints.outside(0, 99)) {
            PlainAsk x = desk();
            for (int sort = TABLE; sort <= NOISE; sort++) {
                CHECK.due("mean with COST " + cost, x.mean(7, sort, 0, 0, cost), NONE);
            }
            CHECK.due("MEANINGS after COST " + cost, x.count(2), 0);
        }
    }

    /** "each a SORT": 0 .. 5. */
    private static void sixSorts() {
        for (int sort = TABLE; sort <= NOISE; sort++) {
            means(sort, 0, 0, true);
        }
        for (int sort : Ints.outside(TABLE, NOISE)) {
            means(sort, 0, 0, false);
        }
    }

    /** "0 TABLE a"; promise 7: "NONE: also a TABLE .. that there is not". */
    private static void tableOfAMeaning() {
        for (int a = 0; a < 4; a++) {
            means(TABLE, 100 * a, 0, true);
        }
        means(TABLE, 400, 0, false);
        means(TABLE, -100, 0, false);
        PlainAsk x = new PlainAsk();
        for (int made = 0; made < 4; made++) {
            CHECK.due("TABLE " + made + " is not yet there", x.mean(made, TABLE, 100 * made, 0, 0), NONE);
            x.table(1);
            CHECK.due("TABLE " + made + " is there", x.mean(made, TABLE, 100 * made, 0, 0), 0);
        }
    }

    /** "1 COLUMN b of TABLE a"; promise 7: "NONE: also a .. COLUMN that there is not". */
    private static void columnOfAMeaning() {
        int[] columns = {1, 4, 2, 4};
        for (int a = 0; a < 4; a++) {
            for (int b = 0; b <= 5; b++) {
                means(COLUMN, 100 * a + b, 0, b < columns[a]);
                means(VALUE, 100 * a + b, 5, b < columns[a]);
            }
            means(COLUMN, 100 * a + 99, 0, false);
            means(VALUE, 100 * a + 99, 5, false);
        }
        means(COLUMN, 400, 0, false);
        means(VALUE, 400, 0, false);
        means(COLUMN, -1, 0, false);
        means(VALUE, -1, 0, false);
    }

    /** "2 DOING a: 0 COUNT, 1 SUM, 2 MOST, 3 LEAST." */
    private static void fourDoings() {
        for (int a = 0; a < 4; a++) {
            means(DOING, 100 * a, 0, true);
        }
        means(DOING, 400, 0, false);
        means(DOING, -100, 0, false);
    }

    /** "3 VALUE: COLUMN b of TABLE a is c": c is a value, -999 .. 999. */
    private static void valueOfAMeaning() {
        for (int c : new int[] {-999, -998, -1, 0, 1, 998, 999}) {
            means(VALUE, 103, c, true);
        }
        for (int c : Ints.outside(-999, 999)) {
            means(VALUE, 103, c, false);
        }
    }

    /** "4 THAN a: 0 above, 1 below, 2 is." */
    private static void threeThans() {
        for (int a = 0; a < 3; a++) {
            means(THAN, 100 * a, 0, true);
        }
        means(THAN, 300, 0, false);
        means(THAN, -100, 0, false);
    }

    /** "(Numbers that a SORT does not have are 0.)" */
    private static void numbersThatASortDoesNotHave() {
        for (int sort : new int[] {TABLE, DOING, THAN, NOISE}) {
            means(sort, 1, 0, false);
            means(sort, 3, 0, false);
            means(sort, 99, 0, false);
        }
        for (int sort : new int[] {TABLE, COLUMN, DOING, THAN, NOISE}) {
            for (int c : new int[] {1, -1, 999, -999, Ints.LEAST, Ints.GREATEST}) {
                means(sort, 0, c, false);
            }
        }
        means(NOISE, 100, 0, false);
        means(NOISE, 300, 0, false);
    }

    /** Promise 7: "where: 100 times a, and b". */
    private static void where() {
        for (int sort = TABLE; sort <= NOISE; sort++) {
            for (int where : new int[] {-1, -99, -100, -101, Ints.LEAST, Ints.GREATEST, 2147483600, 1000000}) {
                means(sort, where, 0, false);
            }
        }
        PlainAsk x = desk();
        Desks.rows(x, 3, 1);
        x.put(3, 0, 2, -5);
        x.mean(0, TABLE, 300, 0, 0);
        x.mean(1, VALUE, 302, -5, 0);
        Desks.ask(x, "0 1");
        CHECK.due("where 300: the TABLE", x.reading(0, 2), 3);
        CHECK.due("where 302: the TABLE", x.test(0, 0, 0), 3);
        CHECK.due("where 302: the COLUMN", x.test(0, 0, 1), 2);
        CHECK.due("VALUE c", x.test(0, 0, 3), -5);
    }

    /** "Answers, the first that a call names": mean names NONE ahead of FULL. */
    private static void noneAheadOfFull() {
        PlainAsk x = desk();
        for (int m = 0; m < 3; m++) {
            x.mean(7, NOISE, 0, 0, 0);
        }
        CHECK.due("full and right", x.mean(7, NOISE, 0, 0, 0), FULL);
        CHECK.due("full and a wrong SORT", x.mean(7, 6, 0, 0, 0), NONE);
        CHECK.due("full and a wrong TABLE", x.mean(7, TABLE, 400, 0, 0), NONE);
        CHECK.due("full and a wrong COLUMN", x.mean(7, COLUMN, 1, 0, 0), NONE);
        CHECK.due("full and a wrong value", x.mean(7, VALUE, 0, 1000, 0), NONE);
        CHECK.due("full and a number too many", x.mean(7, NOISE, 0, 1, 0), NONE);
        CHECK.due("full and a wrong COST", x.mean(7, NOISE, 0, 0, 100), NONE);
        CHECK.due("full and a wrong where", x.mean(7, NOISE, -1, 0, 0), NONE);
        for (int t = 0; t < 4; t++) {
            CHECK.due("a fifth TABLE", x.table(t + 1), FULL);
        }
        for (int columns : Ints.outside(1, 4)) {
            CHECK.due("full and table(" + columns + ")", x.table(columns), NONE);
        }
    }

    /** Promise 8: "The COST of a MEANING. NONE." */
    private static void costOfAMeaning() {
        PlainAsk x = desk();
        for (int many = 0; many <= 3; many++) {
            for (int m = 0; m < many; m++) {
                CHECK.due(many + " MEANINGS, COST of " + m, x.cost(39, m), 99 - m);
            }
            for (int m : Ints.outside(0, many - 1)) {
                CHECK.due(many + " MEANINGS, COST of " + m, x.cost(39, m), NONE);
            }
            x.mean(39, NOISE, 0, 0, 99 - many);
        }
    }

    /** Promise 9: "All MEANINGS of a WORD go: how many it had. NONE." */
    private static void forgetting() {
        for (int many = 0; many <= 3; many++) {
            PlainAsk x = desk();
            for (int m = 0; m < many; m++) {
                x.mean(20, NOISE, 0, 0, 5);
            }
            x.mean(19, NOISE, 0, 0, 6);
            x.mean(21, NOISE, 0, 0, 7);
            CHECK.due("forget of " + many, x.forget(20), many);
            CHECK.due("MEANINGS that stay", x.count(2), 2);
            CHECK.due("COST of what went", x.cost(20, 0), NONE);
            CHECK.due("the WORD ahead", x.cost(19, 0), 6);
            CHECK.due("the WORD behind", x.cost(21, 0), 7);
            CHECK.due("forget again", x.forget(20), 0);
            for (int m = 0; m < 3; m++) {
                CHECK.due("MEANINGS from 0 on again", x.mean(20, NOISE, 0, 0, 40 + m), m);
                CHECK.due("and their COST", x.cost(20, m), 40 + m);
            }
            CHECK.due("full again", x.mean(20, NOISE, 0, 0, 0), FULL);
        }
    }

    /** "THE LINE: at most 8 TOKENS, each a WORD or a NUMBER"; promises 10 and 11: "how many TOKENS it has .. FULL". */
    private static void eightTokens() {
        for (int mask = 0; mask < 256; mask++) {
            PlainAsk x = desk();
            for (int n = 0; n < 8; n++) {
                boolean numeric = (mask >> n & 1) != 0;
                CHECK.due("TOKEN " + n, numeric ? x.number(n) : x.word(n), n + 1);
            }
            CHECK.due("a ninth WORD", x.word(0), FULL);
            CHECK.due("a ninth NUMBER", x.number(0), FULL);
            CHECK.due("TOKENS", x.count(1), 8);
            CHECK.due("clear", x.clear(), 8);
            CHECK.due("a WORD again", x.word(0), 1);
        }
    }

    /** Promise 10: "NONE". A WORD without MEANINGS may come to THE LINE. */
    private static void wordRefused() {
        PlainAsk x = new PlainAsk();
        for (int n = 0; n < 7; n++) {
            for (int w : Ints.outside(0, 39)) {
                CHECK.due("word(" + w + ")", x.word(w), NONE);
            }
            CHECK.due("TOKENS", x.count(1), n);
            CHECK.due("a WORD without MEANINGS", x.word(39 - n), n + 1);
        }
    }

    /** "a NUMBER (-999 .. 999)"; promise 11: "NONE". */
    private static void numberRange() {
        for (int v : new int[] {-999, -998, 0, 998, 999}) {
            PlainAsk x = Desks.tables(1);
            x.mean(0, TABLE, 0, 0, 0);
            x.mean(1, COLUMN, 0, 0, 0);
            x.mean(2, THAN, 200, 0, 0);
            Desks.ask(x, "0 1 2");
            CHECK.due("READINGS ahead of the NUMBER", x.readings(), 0);
            CHECK.due("number(" + v + ")", x.number(v), 4);
            CHECK.due("READINGS behind it", x.readings(), 1);
            CHECK.due("the NUMBER of the TEST", x.test(0, 0, 3), v);
        }
        PlainAsk x = new PlainAsk();
        for (int v : Ints.outside(-999, 999)) {
            CHECK.due("number(" + v + ")", x.number(v), NONE);
        }
        CHECK.due("TOKENS after refusals", x.count(1), 0);
        CHECK.due("number(-999) behind them", x.number(-999), 1);
    }

    /** "Answers, the first that a call names": word and number name NONE ahead of FULL. */
    private static void noneAheadOfFullLine() {
        PlainAsk x = new PlainAsk();
        for (int n = 0; n < 8; n++) {
            x.word(n);
        }
        for (int w : Ints.outside(0, 39)) {
            CHECK.due("full and word(" + w + ")", x.word(w), NONE);
        }
        for (int v : Ints.outside(-999, 999)) {
            CHECK.due("full and number(" + v + ")", x.number(v), NONE);
        }
        CHECK.due("full and word(39)", x.word(39), FULL);
        CHECK.due("full and number(999)", x.number(999), FULL);
    }

    /** Promise 12: "THE LINE becomes empty: how many it had." */
    private static void clearing() {
        PlainAsk x = Desks.tables(1);
        x.mean(0, TABLE, 0, 0, 4);
        x.row(0);
        for (int n = 0; n <= 8; n++) {
            for (int k = 0; k < n; k++) {
                x.word(0);
            }
            CHECK.due("READINGS of " + n, x.readings(), n == 1 ? 1 : 0);
            CHECK.due("clear of " + n, x.clear(), n);
            CHECK.due("an empty LINE", x.count(1), 0);
            CHECK.due("no READING", x.readings(), 0);
            CHECK.due("clear of an empty LINE", x.clear(), 0);
        }
        CHECK.due("TABLES stay", x.count(0), 1);
        CHECK.due("ROWS stay", x.value(0, 0, 0), PlainAsk.NOTHING);
        CHECK.due("MEANINGS stay", x.cost(0, 0), 4);
    }

    /** Promise 23: "How many: 0 TABLES, 1 TOKENS on THE LINE, 2 MEANINGS of all WORDS. NONE." */
    private static void counting() {
        PlainAsk x = desk();
        x.row(0);
        x.word(0);
        x.number(1);
        for (int w = 0; w < 3; w++) {
            x.mean(39 - w, NOISE, 0, 0, 0);
        }
        CHECK.due("count(0)", x.count(0), 4);
        CHECK.due("count(1)", x.count(1), 2);
        CHECK.due("count(2)", x.count(2), 3);
        for (int what : Ints.outside(0, 2)) {
            CHECK.due("count(" + what + ")", x.count(what), NONE);
        }
    }
}
