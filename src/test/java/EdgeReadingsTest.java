/** The edges of the READINGS of part 2 and of promise 13: which there are, at what COST, in what order. */
public final class EdgeReadingsTest {
    private static final Check CHECK = new Check("EdgeReadingsTest");
    private static final int TABLE = 0, COLUMN = 1, DOING = 2, VALUE = 3, THAN = 4, NOISE = 5;

    public static void main(String[] args) {
        emptyLine();
        wordWithoutMeanings();
        eachTimeItStandsThere();
        thanBehindAColumn();
        thanAheadOfANumber();
        numberBehindAThan();
        columnAtTheFirstPlace();
        oneColumnWithoutThan();
        oneTable();
        oneDoing();
        manyOfTheOthers();
        countWithoutADoing();
        fromToldOrOfWanted();
        thereMustBeAFrom();
        wantedOfFrom();
        wantedJustIfNotCount();
        testsReachable();
        testsAtEachColumn();
        oneStepOnly();
        firstLinkingColumn();
        costs();
        costsByPlaces();
        orderByCost();
        orderByFirstPlace();
        mostReadings();
        CHECK.end();
    }

    /**
     * One MEANING each: 0 TABLE 0, 1 and 11 its COLUMNS 0 and 1, 2 SUM, 3 VALUE, 4 above, 5 NOISE, 7 COUNT, 8 MOST,
     * 9 LEAST, 10 TABLE 1, 12 its COLUMN 0, 13 a VALUE of it, 14 below, 15 is. 6 none.
     */
    private static PlainAsk desk() {
        PlainAsk x = Desks.tables(2, 1);
        x.mean(0, TABLE, 0, 0, 0);
        x.mean(1, COLUMN, 0, 0, 0);
        x.mean(2, DOING, 100, 0, 0);
        x.mean(3, VALUE, 1, 1, 0);
        x.mean(4, THAN, 0, 0, 0);
        x.mean(5, NOISE, 0, 0, 0);
        x.mean(7, DOING, 0, 0, 0);
        x.mean(8, DOING, 200, 0, 0);
        x.mean(9, DOING, 300, 0, 0);
        x.mean(10, TABLE, 100, 0, 0);
        x.mean(11, COLUMN, 1, 0, 0);
        x.mean(12, COLUMN, 100, 0, 0);
        x.mean(13, VALUE, 100, 1, 0);
        x.mean(14, THAN, 100, 0, 0);
        x.mean(15, THAN, 200, 0, 0);
        return x;
    }

    private static void none(String... lines) {
        for (String line : lines) {
            readings(desk(), line, 0);
        }
    }

    private static void one(String... lines) {
        for (String line : lines) {
            readings(desk(), line, 1);
        }
    }

    private static void readings(PlainAsk x, String line, int due) {
        Desks.ask(x, line);
        CHECK.due("READINGS of '" + line + "'", x.readings(), due);
        CHECK.due("the last of '" + line + "'", x.reading(due - 1, 0) == -9 ? 0 : 1, due > 0 ? 1 : 0);
        CHECK.due("one more of '" + line + "'", x.reading(due, 0), -9);
    }

    /** Promise 1: "an empty LINE"; promise 13. */
    private static void emptyLine() {
        none("");
        PlainAsk x = desk();
        readings(x, "0", 1);
        readings(x, "", 0);
    }

    /** "(A WORD without MEANINGS: there is no READING.)" */
    private static void wordWithoutMeanings() {
        none("6", "6 0", "0 6", "6 6", "0 6 5", "2 1 6", "0 5 5 5 5 5 5 6", "6 5 5 5 5 5 5 0", "0 1 6 #5");
        for (int w = 20; w < 40; w++) {
            none("0 " + w);
        }
        PlainAsk x = desk();
        readings(x, "0 5", 1);
        x.forget(5);
        CHECK.due("READINGS when a WORD is forgotten", x.readings(), 0);
        x.mean(5, NOISE, 0, 0, 9);
        CHECK.due("READINGS when it means something again", x.readings(), 1);
    }

    /** "gives each WORD on THE LINE (each time it stands there) one of its MEANINGS". */
    private static void eachTimeItStandsThere() {
        PlainAsk x = Desks.tables(1);
        x.mean(0, TABLE, 0, 0, 0);
        x.mean(0, NOISE, 0, 0, 0);
        x.mean(1, TABLE, 0, 0, 0);
        StringBuilder line = new StringBuilder("0");
        for (int many = 1; many <= 8; many++) {
            readings(x, line.toString(), many);
            line.append(" 0");
        }
        readings(x, "1", 1);
        readings(x, "1 1", 0);
    }

    /** "each THAN stands directly behind a COLUMN". */
    private static void thanBehindAColumn() {
        one("0 1 4 #5", "0 1 14 #5", "0 1 15 #5", "1 4 #5 0", "0 5 1 4 #5");
        none("4 #5 0", "0 4 #5", "1 2 4 #5", "0 3 4 #5", "0 5 4 #5", "0 1 5 4 #5", "0 1 4 4 #5", "0 1 4 #5 4 #6",
            "2 1 0 4 #5", "2 1 3 4 #5");
    }

    /** "and directly ahead of a NUMBER". */
    private static void thanAheadOfANumber() {
        none("0 1 4", "1 4 0", "1 4 0 #5", "0 1 4 5 #5", "0 1 4 3", "0 1 4 3 #5", "0 1 4 1 4 #5", "0 1 4 14 #5",
            "0 1 4 7", "0 5 5 5 5 5 1 4");
        one("0 5 5 5 5 1 4 #5");
    }

    /** "each NUMBER directly behind a THAN". */
    private static void numberBehindAThan() {
        none("#5", "#5 0", "0 #5", "2 1 #5", "1 2 #5", "0 3 #5", "0 5 #5", "0 1 4 #5 #5", "#5 0 1 4 #5",
            "0 1 4 #5 5 #6", "#0", "0 #0", "#5 #5 #5 #5 #5 #5 #5 #5");
        for (int than = 0; than < 3; than++) {
            PlainAsk x = desk();
            for (int m = 0; m < 3; m++) {
                x.mean(20, m == than ? THAN : NOISE, 0, 0, m);
            }
            readings(x, "0 1 20 #5", 1);
            CHECK.due("the only MEANING ahead of a NUMBER", x.reading(0, 12), than);
            readings(x, "0 20 #5", 0);
            readings(x, "0 20", 2);
        }
    }

    /** "behind a COLUMN": of WORD 0 as of any other one, and at the first place as at any other one. */
    private static void columnAtTheFirstPlace() {
        PlainAsk x = Desks.tables(1);
        x.mean(0, COLUMN, 0, 0, 0);
        x.mean(1, THAN, 0, 0, 0);
        x.mean(2, TABLE, 0, 0, 0);
        readings(x, "0 1 #0 2", 1);
        CHECK.due("its TESTS", x.reading(0, 4), 1);
        CHECK.due("its WANTED", x.reading(0, 3), -1);
        readings(x, "2 0 1 #0", 1);
        CHECK.due("its TESTS", x.reading(0, 4), 1);
    }

    /** "there is at most one of each: COLUMNS without a THAN directly behind". */
    private static void oneColumnWithoutThan() {
        one("2 1", "2 1 1 4 #5", "2 1 4 #5 1", "2 11 1 4 #5", "2 1 4 #5 11 4 #6 1", "0 1 4 #5 1 14 #6");
        none("2 1 1", "2 1 11", "1 2 1", "2 1 5 11", "2 1 1 4 #5 1", "1 5 5 5 5 5 2 1",
            "0 1 1", "0 1 11", "0 7 1 11", "1 11", "7 1 11", "0 1 11 1");
    }

    /** "at most one of each: .. TABLES". */
    private static void oneTable() {
        one("0", "10", "0 2 1", "2 1");
        none("0 0", "0 10", "10 0", "0 5 0", "0 2 1 0", "0 5 5 5 5 5 5 0", "0 5 5 5 5 5 5 10");
    }

    /** "at most one of each: .. DOINGS". */
    private static void oneDoing() {
        one("7 0", "0 7", "2 1", "8 1", "9 1");
        none("7 7 0", "7 0 7", "2 2 1", "2 8 1", "7 2 1", "2 7 1", "2 1 7", "7 2 0", "9 5 5 5 5 5 1 9");
    }

    /** "at most one of each" names neither VALUES, THANS nor NOISE. */
    private static void manyOfTheOthers() {
        one("0 3 3 3 3 3 3 3", "3 3 3 3 3 3 3 0", "0 5 5 5 5 5 5 5", "0 1 4 #5 1 14 #6 3");
        PlainAsk x = desk();
        Desks.ask(x, "3 3 3 3 3 3 3 0");
        CHECK.due("seven TESTS", x.reading(0, 4), 7);
        CHECK.due("the last of seven", x.test(0, 6, 1), 1);
        CHECK.due("none behind it", x.test(0, 7, 1), PlainAsk.NO_VALUE);
    }

    private static void form(PlainAsk x, String line, int doing, int from, int wanted) {
        readings(x, line, 1);
        CHECK.due("DO of '" + line + "'", x.reading(0, 1), doing);
        CHECK.due("FROM of '" + line + "'", x.reading(0, 2), from);
        CHECK.due("WANTED of '" + line + "'", x.reading(0, 3), wanted);
    }

    /** "DO, the DOING (COUNT without one)". */
    private static void countWithoutADoing() {
        form(desk(), "0", 0, 0, -1);
        form(desk(), "7 0", 0, 0, -1);
        form(desk(), "2 1", 1, 0, 0);
        form(desk(), "8 1", 2, 0, 0);
        form(desk(), "11 9", 3, 0, 1);
    }

    /** "FROM, the TABLE told, or that of WANTED". */
    private static void fromToldOrOfWanted() {
        form(desk(), "10", 0, 1, -1);
        form(desk(), "2 12", 1, 1, 0);
        form(desk(), "2 12 10", 1, 1, 0);
        form(desk(), "0 2 11", 1, 0, 1);
    }

    /** "There must be a FROM": neither a TEST, nor a COLUMN with a THAN tells it. */
    private static void thereMustBeAFrom() {
        none("3", "5", "7", "2", "1 4 #5", "7 1 4 #5", "7 3", "2 3", "2 1 4 #5", "3 3 3 3 3 3 3 3", "13",
            "5 5 5 5 5 5 5 5");
    }

    /** "WANTED must be of FROM", also where FROM LINKS to its TABLE. */
    private static void wantedOfFrom() {
        one("0 2 1", "10 2 12");
        none("10 2 1", "0 2 12", "2 1 10");
        PlainAsk x = desk();
        x.link(0, 0, 1);
        x.link(1, 0, 0);
        readings(x, "0 2 12", 0);
        readings(x, "10 2 1", 0);
        readings(x, "10 2 12", 1);
    }

    /** "there just if DO is not COUNT". */
    private static void wantedJustIfNotCount() {
        none("1", "7 1", "0 1", "0 7 1", "0 2", "0 8", "0 9", "10 2", "0 2 1 4 #5");
        one("0 7", "0 2 1", "0 8 1", "0 9 1");
    }

    /** "each TEST must be of FROM, or of a TABLE to which a COLUMN of FROM LINKS". */
    private static void testsReachable() {
        for (String test : new String[] {"13", "12 4 #5", "12 14 #5", "12 15 #5"}) {
            PlainAsk x = desk();
            readings(x, "10 " + test, 1);
            readings(x, "0 " + test, 0);
            readings(x, "2 1 " + test, 0);
            x.link(1, 0, 0);
            CHECK.due("the LINK leads the other way", x.readings(), 0);
            x.link(0, 1, 1);
            CHECK.due("a LINK there", x.readings(), 1);
            readings(x, "0 " + test, 1);
            readings(x, "0 3 " + test + " 3", 1);
            x.link(0, 1, -1);
            CHECK.due("no LINK any more", x.readings(), 0);
        }
    }

    /** "a COLUMN of FROM LINKS": the first one as well as the last, to each TABLE from each. */
    private static void testsAtEachColumn() {
        for (int from = 0; from < 4; from++) {
            PlainAsk x = Desks.tables(4, 4, 4, 4);
            x.mean(0, TABLE, 100 * from, 0, 0);
            for (int to = 0; to < 4; to++) {
                x.mean(1 + to, VALUE, 100 * to + 3, 1, 0);
            }
            for (int to = 0; to < 4; to++) {
                for (int c = 0; c < 4; c++) {
                    readings(x, "0 " + (1 + to), to == from ? 1 : 0);
                    x.link(from, c, to);
                    CHECK.due("TABLE " + from + ", COLUMN " + c + " to " + to, x.readings(), 1);
                    x.link(from, c, -1);
                }
            }
        }
    }

    /** "a TABLE to which a COLUMN of FROM LINKS": not one that is two LINKS away. */
    private static void oneStepOnly() {
        PlainAsk x = Desks.tables(1, 1, 1);
        x.mean(0, TABLE, 0, 0, 0);
        x.mean(1, VALUE, 200, 1, 0);
        x.mean(2, VALUE, 100, 1, 0);
        x.link(0, 0, 1);
        x.link(1, 0, 2);
        readings(x, "0 1", 0);
        readings(x, "0 2 1", 0);
        readings(x, "0 2", 1);
    }

    /** "(the first such COLUMN counts)": the one with the least number, in whatever order they were linked. */
    private static void firstLinkingColumn() {
        for (int first = 0; first < 4; first++) {
            PlainAsk x = Desks.tables(4, 1);
            Desks.rows(x, 0, 4);
            Desks.rows(x, 1, 2);
            x.put(1, 1, 0, 9);
            for (int c = 0; c < 4; c++) {
                x.put(0, c, c, 1);
            }
            x.mean(0, TABLE, 0, 0, 0);
            x.mean(1, VALUE, 100, 9, 0);
            Desks.ask(x, "0 1");
            for (int c = 3; c >= first; c--) {
                x.link(0, c, 1);
                CHECK.due("by COLUMN " + c, x.found(0, 0), c);
                CHECK.due("by no other one", x.reading(0, 5), 1);
            }
        }
        PlainAsk x = Desks.tables(3, 1, 1);
        x.mean(0, TABLE, 0, 0, 0);
        x.mean(1, VALUE, 100, 9, 0);
        Desks.fill(x, 0, new int[][] {{0, 0, -1}, {-1, -1, 0}});
        Desks.fill(x, 1, new int[][] {{9}});
        Desks.fill(x, 2, new int[][] {{9}});
        x.link(0, 0, 2);
        x.link(0, 2, 1);
        Desks.ask(x, "0 1");
        CHECK.due("a COLUMN that LINKS elsewhere is none such", x.found(0, 0), 1);
    }

    /** "COST of a READING: those of its MEANINGS": 0 at least, 8 times 99 at most; a NUMBER costs nothing. */
    private static void costs() {
        for (int cost : new int[] {0, 1, 98, 99}) {
            PlainAsk x = Desks.tables(1);
            x.mean(0, TABLE, 0, 0, cost);
            x.mean(1, NOISE, 0, 0, cost);
            x.mean(2, COLUMN, 0, 0, cost);
            x.mean(3, THAN, 0, 0, cost);
            Desks.ask(x, "0");
            CHECK.due("one WORD", x.reading(0, 0), cost);
            Desks.ask(x, "1 1 1 0 1 1 1 1");
            CHECK.due("eight WORDS", x.reading(0, 0), 8 * cost);
            Desks.ask(x, "0 2 3 #999 2 3 #-999 1");
            CHECK.due("six WORDS and two NUMBERS", x.reading(0, 0), 6 * cost);
        }
    }

    /** "those of its MEANINGS": of each place its own. */
    private static void costsByPlaces() {
        PlainAsk x = Desks.tables(1);
        x.mean(0, TABLE, 0, 0, 1);
        for (int w = 1; w < 8; w++) {
            x.mean(w, NOISE, 0, 0, 50 - 7 * w);
            x.mean(w, NOISE, 0, 0, 50);
        }
        Desks.ask(x, "0 1 2 3 4 5 6 7");
        CHECK.due("READINGS", x.readings(), 128);
        CHECK.due("the cheapest", x.reading(0, 0), 1 + 7 * 50 - 7 * 28);
        CHECK.due("one dearer", x.reading(1, 0), 1 + 7 * 50 - 7 * 28 + 7);
        CHECK.due("at the place with the least gap", x.reading(1, 11), 1);
        CHECK.due("the dearest", x.reading(127, 0), 351);
        for (int p = 11; p < 18; p++) {
            CHECK.due("the cheapest at " + p, x.reading(0, p), 0);
            CHECK.due("the dearest at " + p, x.reading(127, p), 1);
        }
    }

    /** "READINGS are numbered from 0 on by COST". */
    private static void orderByCost() {
        for (int gap : new int[] {-99, -1, 1, 99}) {
            PlainAsk x = Desks.tables(1, 1);
            x.mean(0, TABLE, 0, 0, Math.max(-gap, 0));
            x.mean(0, TABLE, 100, 0, Math.max(gap, 0));
            Desks.ask(x, "0");
            CHECK.due("COST of the first", x.reading(0, 0), 0);
            CHECK.due("COST of the second", x.reading(1, 0), Math.abs(gap));
            CHECK.due("MEANING of the first", x.reading(0, 10), gap > 0 ? 0 : 1);
            CHECK.due("FROM of the first", x.reading(0, 2), gap > 0 ? 0 : 1);
        }
        PlainAsk x = Desks.tables(1);
        x.mean(0, TABLE, 0, 0, 5);
        for (int w = 1; w < 8; w++) {
            x.mean(w, NOISE, 0, 0, 99);
            x.mean(w, NOISE, 0, 0, 0);
        }
        Desks.ask(x, "0 1 2 3 4 5 6 7");
        CHECK.due("the greatest gap: the first", x.reading(0, 0), 5);
        CHECK.due("the greatest gap: the last", x.reading(127, 0), 5 + 7 * 99);
        for (int p = 11; p < 18; p++) {
            CHECK.due("the cheaper MEANING at " + p, x.reading(0, p), 1);
        }
    }

    /** "of like ones the lesser MEANING at the first place in which they differ". */
    private static void orderByFirstPlace() {
        PlainAsk x = Desks.tables(1);
        x.mean(0, TABLE, 0, 0, 9);
        for (int m = 0; m < 3; m++) {
            x.mean(1, NOISE, 0, 0, 7);
        }
        Desks.ask(x, "1 1 0 1 1 1 1 1");
        CHECK.due("READINGS", x.readings(), 2187);
        int[] places = {0, 1, 3, 4, 5, 6, 7};
        for (int i : new int[] {0, 1, 2, 3, 5, 8, 9, 728, 729, 1457, 1458, 2185, 2186}) {
            int rest = i;
            for (int n = 6; n >= 0; n--) {
                CHECK.due("READING " + i + " at " + places[n], x.reading(i, 10 + places[n]), rest % 3);
                rest /= 3;
            }
            CHECK.due("READING " + i + " at 2", x.reading(i, 12), 0);
            CHECK.due("COST of READING " + i, x.reading(i, 0), 58);
        }
        PlainAsk y = Desks.tables(1);
        y.mean(0, TABLE, 0, 0, 0);
        y.mean(1, NOISE, 0, 0, 0);
        y.mean(1, NOISE, 0, 0, 1);
        Desks.ask(y, "1 0 1");
        int[][] due = {{0, 0}, {0, 1}, {1, 0}, {1, 1}};
        for (int i = 0; i < 4; i++) {
            CHECK.due("like COSTS: READING " + i + " at 0", y.reading(i, 10), due[i][0]);
            CHECK.due("like COSTS: READING " + i + " at 2", y.reading(i, 12), due[i][1]);
        }
    }

    /** Promise 13: "How many READINGS THE LINE has": 3 to the power of 8 at most. */
    private static void mostReadings() {
        PlainAsk x = Desks.tables(3);
        for (int m = 0; m < 3; m++) {
            x.mean(0, DOING, 100 * (m + 1), 0, 33 * m);
            x.mean(1, COLUMN, m, 0, 99);
            x.mean(2, NOISE, 0, 0, 99);
        }
        Desks.ask(x, "0 1 2 2 2 2 2 2");
        CHECK.due("READINGS", x.readings(), 6561);
        CHECK.due("COST of the first", x.reading(0, 0), 693);
        CHECK.due("COST of the last", x.reading(6560, 0), 759);
        for (int p = 10; p < 18; p++) {
            CHECK.due("the first at " + p, x.reading(0, p), 0);
            CHECK.due("the last at " + p, x.reading(6560, p), 2);
        }
        CHECK.due("behind the last", x.reading(6561, 0), -9);
        CHECK.due("answer of the last", x.answer(6560), PlainAsk.NOTHING);
        CHECK.due("answer behind the last", x.answer(6561), PlainAsk.NO_VALUE);
        CHECK.due("take behind the last", x.take(6561), PlainAsk.NONE);
        CHECK.due("take of the last", x.take(6560), 5);
    }
}
