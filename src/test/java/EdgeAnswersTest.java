/** The edges of FOUND and ANSWER of part 3 and of promises 14 to 17. */
public final class EdgeAnswersTest {
    private static final Check CHECK = new Check("EdgeAnswersTest");
    private static final int NONE = PlainAsk.NONE, NOTHING = PlainAsk.NOTHING, NO_VALUE = PlainAsk.NO_VALUE;
    private static final int TABLE = 0, COLUMN = 1, DOING = 2, VALUE = 3, THAN = 4, NOISE = 5;
    private static final int MISSING = -1000;

    public static void main(String[] args) {
        readingNumbers();
        whatOfAReading();
        placesOfTheLine();
        wantedNone();
        howManyTests();
        howManyFound();
        whatOfATest();
        testsInTheOrderOfTheLine();
        foundRows();
        aboveBelowIs();
        valueIs();
        missingValueDoesNotHold();
        missingRowDoesNotHold();
        allTestsHold();
        eachColumnWithEachThan();
        eachFromWithEachTest();
        sums();
        mostAndLeast();
        ofNone();
        missingOnesAside();
        CHECK.end();
    }

    /** WORDS 0 TABLE 0, 1 .. 3 SUM MOST LEAST, 4 COLUMN 0, 5 COLUMN 1, 6 .. 8 above below is, 9 VALUE, 10 NOISE. */
    private static PlainAsk desk() {
        PlainAsk x = Desks.tables(2);
        x.mean(0, TABLE, 0, 0, 0);
        for (int a = 1; a <= 3; a++) {
            x.mean(a, DOING, 100 * a, 0, 0);
        }
        x.mean(4, COLUMN, 0, 0, 0);
        x.mean(5, COLUMN, 1, 0, 0);
        for (int a = 0; a < 3; a++) {
            x.mean(6 + a, THAN, 100 * a, 0, 0);
        }
        x.mean(9, VALUE, 1, 1, 0);
        x.mean(10, NOISE, 0, 0, 0);
        return x;
    }

    /** Promises 14 to 17, 21 and 22: "READING i", of which there are 0, 1 or 3; "-9: NONE", "NO_VALUE", "NONE". */
    private static void readingNumbers() {
        for (int many : new int[] {0, 1, 3}) {
            for (int i : Ints.outside(0, many - 1)) {
                PlainAsk x = someReadings(many);
                CHECK.due(many + " READINGS: reading(" + i + ", 0)", x.reading(i, 0), -9);
                CHECK.due(many + " READINGS: reading(" + i + ", 10)", x.reading(i, 10), -9);
                CHECK.due(many + " READINGS: test(" + i + ", 0, 0)", x.test(i, 0, 0), NO_VALUE);
                CHECK.due(many + " READINGS: answer(" + i + ")", x.answer(i), NO_VALUE);
                CHECK.due(many + " READINGS: found(" + i + ", 0)", x.found(i, 0), NONE);
                CHECK.due(many + " READINGS: take(" + i + ")", x.take(i), NONE);
                CHECK.due(many + " READINGS: why(" + i + ")", x.why(i), NONE);
            }
            for (int i = 0; i < many; i++) {
                PlainAsk x = someReadings(many);
                CHECK.due(many + " READINGS: reading(" + i + ", 0)", x.reading(i, 0), i);
                CHECK.due(many + " READINGS: reading(" + i + ", 10)", x.reading(i, 10), i);
                CHECK.due(many + " READINGS: test(" + i + ", 0, 3)", x.test(i, 0, 3), 5 + i);
                CHECK.due(many + " READINGS: answer(" + i + ")", x.answer(i), 1);
                CHECK.due(many + " READINGS: found(" + i + ", 0)", x.found(i, 0), i);
                CHECK.due(many + " READINGS: why(" + i + ")", x.why(i), 0);
                CHECK.due(many + " READINGS: take(" + i + ")", x.take(i), many - (i == 0 ? 1 : 0));
            }
        }
    }

    private static PlainAsk someReadings(int many) {
        PlainAsk x = desk();
        Desks.fill(x, 0, new int[][] {{5, 0}, {6, 0}, {7, 0}});
        for (int m = 0; m < many; m++) {
            x.mean(20, VALUE, 0, 5 + m, m);
        }
        Desks.ask(x, "20 0");
        return x;
    }

    /** Promise 14: "what 0 .. 5"; "10 and p"; "-9: NONE". */
    private static void whatOfAReading() {
        PlainAsk x = desk();
        Desks.fill(x, 0, new int[][] {{3, 1}, {4, 1}, {9, 0}});
        Desks.ask(x, "2 4 9 10");
        int[] due = {0, 2, 0, 0, 1, 2};
        for (int what = 0; what < 6; what++) {
            CHECK.due("reading(0, " + what + ")", x.reading(0, what), due[what]);
        }
        for (int what : new int[] {-1, -10, 6, 7, 8, 9, 14, 15, 18, 19, 100, Ints.LEAST, Ints.GREATEST}) {
            CHECK.due("reading(0, " + what + ")", x.reading(0, what), -9);
        }
        for (int what = 10; what < 14; what++) {
            CHECK.due("reading(0, " + what + ")", x.reading(0, what), 0);
        }
    }

    /** Promise 14: "10 and p: the MEANING at place p of THE LINE (-1: a NUMBER)". */
    private static void placesOfTheLine() {
        for (int tokens = 1; tokens <= 8; tokens++) {
            PlainAsk x = desk();
            x.word(0);
            for (int n = 1; n < tokens; n++) {
                x.word(10);
            }
            CHECK.due(tokens + " TOKENS: the last place", x.reading(0, 9 + tokens), 0);
            CHECK.due(tokens + " TOKENS: behind it", x.reading(0, 10 + tokens), -9);
        }
        PlainAsk x = desk();
        x.mean(20, NOISE, 0, 0, 50);
        x.mean(20, COLUMN, 0, 0, 50);
        x.mean(20, COLUMN, 1, 0, 40);
        Desks.ask(x, "0 20 6 #7 20 8 #-999 10");
        int[] due = {0, 2, 0, -1, 2, 0, -1, 0};
        for (int p = 0; p < 8; p++) {
            CHECK.due("place " + p, x.reading(0, 10 + p), due[p]);
        }
        CHECK.due("place 8", x.reading(0, 18), -9);
    }

    /** Promise 14: "3 WANTED (the COLUMN; -1: none)". */
    private static void wantedNone() {
        PlainAsk x = desk();
        Desks.ask(x, "0");
        CHECK.due("none", x.reading(0, 3), -1);
        Desks.ask(x, "0 5 6 #1");
        CHECK.due("none with a THAN behind the COLUMN", x.reading(0, 3), -1);
        Desks.ask(x, "1 4");
        CHECK.due("COLUMN 0", x.reading(0, 3), 0);
        PlainAsk y = Desks.tables(1, 4);
        y.mean(0, DOING, 300, 0, 0);
        y.mean(1, COLUMN, 103, 0, 0);
        Desks.ask(y, "1 0");
        CHECK.due("COLUMN 3", y.reading(0, 3), 3);
        CHECK.due("FROM 1", y.reading(0, 2), 1);
        CHECK.due("DO LEAST", y.reading(0, 1), 3);
    }

    /** Promise 14: "4 how many TESTS": 0 to 7, as one TOKEN at least tells FROM. */
    private static void howManyTests() {
        PlainAsk x = desk();
        x.word(0);
        for (int tests = 0; tests <= 7; tests++) {
            CHECK.due(tests + " TESTS", x.reading(0, 4), tests);
            CHECK.due(tests + " TESTS: one behind", x.test(0, tests, 0), NO_VALUE);
            CHECK.due(tests + " TESTS: the last", x.test(0, tests - 1, 0), tests == 0 ? NO_VALUE : 0);
            x.word(9);
        }
    }

    /** Promise 14: "5 how many are FOUND": 0 to 20, as COUNT answers. */
    private static void howManyFound() {
        PlainAsk x = desk();
        x.word(0);
        for (int rows = 0; rows <= 20; rows++) {
            CHECK.due(rows + " ROWS: FOUND", x.reading(0, 5), rows);
            CHECK.due(rows + " ROWS: COUNT", x.answer(0), rows);
            x.row(0);
        }
    }

    /** Promise 15: "Of TEST k of READING i: 0 TABLE, 1 COLUMN, 2 0 above, 1 below, 2 is, 3 the number. NO_VALUE." */
    private static void whatOfATest() {
        PlainAsk x = Desks.tables(2, 3);
        x.link(0, 1, 1);
        x.mean(0, TABLE, 0, 0, 0);
        x.mean(1, VALUE, 102, -999, 0);
        x.mean(2, COLUMN, 1, 0, 0);
        for (int a = 0; a < 3; a++) {
            x.mean(3, THAN, 100 * a, 0, a);
        }
        Desks.ask(x, "1 2 3 #999 0");
        for (int i = 0; i < 3; i++) {
            int[][] due = {{1, 2, 2, -999}, {0, 1, i, 999}};
            for (int k = 0; k < 2; k++) {
                for (int what = 0; what < 4; what++) {
                    CHECK.due("test(" + i + ", " + k + ", " + what + ")", x.test(i, k, what), due[k][what]);
                }
                for (int what : Ints.outside(0, 3)) {
                    CHECK.due("test(" + i + ", " + k + ", " + what + ")", x.test(i, k, what), NO_VALUE);
                }
            }
            for (int k : Ints.outside(0, 1)) {
                CHECK.due("test(" + i + ", " + k + ", 3)", x.test(i, k, 3), NO_VALUE);
            }
        }
    }

    /** "TESTS, in the order of THE LINE: of each VALUE .., of each THAN". */
    private static void testsInTheOrderOfTheLine() {
        PlainAsk x = desk();
        for (int v = 0; v < 3; v++) {
            x.mean(20 + v, VALUE, 0, 100 + v, 0);
        }
        Desks.ask(x, "22 20 4 6 #7 21 22 0");
        int[] due = {102, 100, 7, 101, 102};
        for (int k = 0; k < 5; k++) {
            CHECK.due("TEST " + k, x.test(0, k, 3), due[k]);
        }
        Desks.ask(x, "5 7 #-1 20 0 4 8 #-2");
        int[] numbers = {-1, 100, -2};
        int[] columns = {1, 0, 0};
        int[] thans = {1, 2, 2};
        for (int k = 0; k < 3; k++) {
            CHECK.due("number of TEST " + k, x.test(0, k, 3), numbers[k]);
            CHECK.due("COLUMN of TEST " + k, x.test(0, k, 1), columns[k]);
            CHECK.due("TEST " + k + " above, below, is", x.test(0, k, 2), thans[k]);
        }
    }

    /** Promise 17: "The k-th ROW that is FOUND by READING i. NONE." */
    private static void foundRows() {
        PlainAsk x = desk();
        Desks.rows(x, 0, 20);
        Desks.ask(x, "0");
        for (int k = 0; k < 20; k++) {
            CHECK.due("of all: found(0, " + k + ")", x.found(0, k), k);
        }
        for (int k : Ints.outside(0, 19)) {
            CHECK.due("of all: found(0, " + k + ")", x.found(0, k), NONE);
        }
        x.put(0, 0, 1, 1);
        x.put(0, 7, 1, 1);
        x.put(0, 19, 1, 1);
        Desks.ask(x, "0 9");
        CHECK.due("the first ROW", x.found(0, 0), 0);
        CHECK.due("one between", x.found(0, 1), 7);
        CHECK.due("the last ROW", x.found(0, 2), 19);
        for (int k : Ints.outside(0, 2)) {
            CHECK.due("of three: found(0, " + k + ")", x.found(0, k), NONE);
        }
        Desks.ask(x, "0 4 8 #0");
        for (int k : new int[] {0, 1, -1, Ints.LEAST, Ints.GREATEST}) {
            CHECK.due("of none: found(0, " + k + ")", x.found(0, k), NONE);
        }
    }

    /** "the COLUMN is above, below, or is the NUMBER": at the NUMBER and just beside it. */
    private static void aboveBelowIs() {
        for (int number : new int[] {-999, -1, 0, 1, 999}) {
            for (int than = 0; than < 3; than++) {
                PlainAsk x = desk();
                x.row(0);
                Desks.ask(x, "0 4 " + (6 + than) + " #" + number);
                for (int v : new int[] {-999, number - 1, number, number + 1, 999}) {
                    if (!Ints.isIn(v, -999, 999)) {
                        continue;
                    }
                    boolean due = than == 0 ? v > number : than == 1 ? v < number : v == number;
                    x.put(0, 0, 0, v);
                    CHECK.due(v + " against " + number + ", THAN " + than, x.answer(0), due ? 1 : 0);
                }
            }
        }
    }

    /** "of each VALUE: the COLUMN is c". */
    private static void valueIs() {
        for (int c : new int[] {-999, -1, 0, 1, 999}) {
            PlainAsk x = desk();
            x.row(0);
            x.mean(20, VALUE, 0, c, 0);
            Desks.ask(x, "20 0");
            for (int v : new int[] {-999, -998, -2, -1, 0, 1, 2, 998, 999}) {
                x.put(0, 0, 0, v);
                CHECK.due(v + " is " + c, x.answer(0), v == c ? 1 : 0);
            }
            x.put(0, 0, 0, MISSING);
            CHECK.due("a missing value is " + c, x.answer(0), 0);
        }
    }

    /** "(a missing value, or ROW: it does not hold)": a missing value of FROM, or of the ROW to which it leads. */
    private static void missingValueDoesNotHold() {
        for (int than = 0; than < 3; than++) {
            for (int number : new int[] {-999, -1, 0, 1, 999}) {
                PlainAsk x = desk();
                x.table(1);
                x.mean(20, COLUMN, 100, 0, 0);
                x.row(1);
                x.row(0);
                x.link(0, 1, 1);
                x.put(0, 0, 1, 0);
                Desks.ask(x, "0 4 " + (6 + than) + " #" + number);
                CHECK.due("missing in FROM against " + number, x.answer(0), 0);
                Desks.ask(x, "0 20 " + (6 + than) + " #" + number);
                CHECK.due("missing behind the LINK against " + number, x.answer(0), 0);
            }
        }
    }

    /** "(a missing value, or ROW: it does not hold)": no ROW to which the linking COLUMN leads. */
    private static void missingRowDoesNotHold() {
        for (int than = 0; than < 3; than++) {
            PlainAsk x = desk();
            x.table(1);
            x.mean(20, COLUMN, 100, 0, 0);
            Desks.rows(x, 1, 2);
            x.put(1, 0, 0, 5);
            x.put(1, 1, 0, 5);
            x.row(0);
            x.link(0, 1, 1);
            Desks.ask(x, "0 20 " + (6 + than) + " #" + (4 + (than == 2 ? 1 : 2 * than)));
            for (int v : new int[] {MISSING, -999, -1, 0, 1, 2, 3, 5, 999}) {
                x.put(0, 0, 1, v);
                CHECK.due("THAN " + than + " by a LINK to " + v, x.answer(0), v == 0 || v == 1 ? 1 : 0);
            }
        }
    }

    /** "FOUND are the ROWS of FROM for which all TESTS hold": without a TEST all of them. */
    private static void allTestsHold() {
        PlainAsk x = desk();
        Desks.fill(x, 0, new int[][] {{1, 1}, {2, 1}, {3, 0}, {4, MISSING}, {MISSING, 1}});
        int[] due = {5, 3, 4, 1};
        String[] tests = {"", " 9", " 4 6 #0", " 9 4 6 #1"};
        for (int n = 0; n < 4; n++) {
            Desks.ask(x, "0" + tests[n]);
            CHECK.due("FOUND by" + tests[n], x.reading(0, 5), due[n]);
        }
        Desks.ask(x, "0 9 9 9 9 9 9 9");
        CHECK.due("seven like TESTS", x.reading(0, 5), 3);
        Desks.ask(x, "0 9 9 9 9 4 8 #2");
        CHECK.due("the last TEST counts too", x.reading(0, 5), 1);
        CHECK.due("its ROW", x.found(0, 0), 1);
    }

    /** "of each THAN: the COLUMN is above, below, or is the NUMBER", where both WORDS have three MEANINGS. */
    private static void eachColumnWithEachThan() {
        PlainAsk x = Desks.tables(3);
        // COLUMN b: how many are above, below, or are 5, nine unlike numbers
        int[][] due = {{9, 1, 5}, {3, 10, 2}, {4, 6, 7}};
        for (int r = 0; r < 20; r++) {
            x.row(0);
            for (int b = 0; b < 3; b++) {
                int above = due[b][0], below = above + due[b][1], is = below + due[b][2];
                x.put(0, r, b, r < above ? 6 : r < below ? 4 : r < is ? 5 : MISSING);
            }
        }
        for (int m = 0; m < 3; m++) {
            x.mean(0, COLUMN, m, 0, 0);
            x.mean(1, THAN, 100 * m, 0, 0);
        }
        x.mean(2, TABLE, 0, 0, 0);
        for (String line : new String[] {"0 1 #5 2", "2 0 1 #5"}) {
            Desks.ask(x, line);
            for (int i = 0; i < 9; i++) {
                CHECK.due("'" + line + "': COLUMN " + i / 3 + ", THAN " + i % 3, x.answer(i), due[i / 3][i % 3]);
            }
            CHECK.due("'" + line + "': unlike ANSWERS", x.answers(0), 9);
        }
    }

    /** "FOUND are the ROWS of FROM", where FROM and the VALUES behind its LINK both have three MEANINGS. */
    private static void eachFromWithEachTest() {
        PlainAsk x = Desks.tables(1, 1, 1, 1);
        int[][] due = {{9, 1, 5}, {3, 10, 2}, {4, 6, 7}};
        int[] from = {0, 2, 3};
        for (int n = 0; n < 3; n++) {
            x.link(from[n], 0, 1);
            x.put(1, x.row(1), 0, 50 + n);
            x.mean(0, TABLE, 100 * from[n], 0, 0);
            x.mean(1, VALUE, 100, 50 + n, 0);
            for (int r = 0; r < 20; r++) {
                int first = due[n][0], second = first + due[n][1], third = second + due[n][2];
                x.put(from[n], x.row(from[n]), 0, r < first ? 0 : r < second ? 1 : r < third ? 2 : 3);
            }
        }
        Desks.ask(x, "0 1");
        for (int i = 0; i < 9; i++) {
            CHECK.due("TABLE " + from[i / 3] + ", VALUE " + i % 3, x.answer(i), due[i / 3][i % 3]);
        }
        Desks.ask(x, "1 0");
        for (int i = 0; i < 9; i++) {
            CHECK.due("VALUE " + i / 3 + ", TABLE " + from[i % 3], x.answer(i), due[i % 3][i / 3]);
        }
    }

    /** "SUM .. of the values of WANTED in them": up to 20 times 999 either way. */
    private static void sums() {
        for (int v : new int[] {999, -999, 0}) {
            PlainAsk x = desk();
            Desks.ask(x, "1 4");
            for (int rows = 1; rows <= 20; rows++) {
                x.put(0, x.row(0), 0, v);
                CHECK.due("SUM of " + rows + " times " + v, x.answer(0), rows * v);
            }
        }
        PlainAsk x = desk();
        Desks.fill(x, 0, new int[][] {{999, 5}, {-999, 7}});
        Desks.ask(x, "1 4");
        CHECK.due("SUM of both ends", x.answer(0), 0);
        Desks.ask(x, "1 5");
        CHECK.due("SUM of COLUMN 1", x.answer(0), 12);
    }

    /** "MOST, LEAST of the values of WANTED in them". */
    private static void mostAndLeast() {
        int[][][] rows = {{{-999, 0}}, {{999, 0}}, {{0, 0}}, {{-5, 0}, {-7, 0}}, {{7, 0}, {5, 0}},
            {{-999, 0}, {999, 0}}, {{5, 0}, {-1, 0}, {0, 0}}};
        int[] most = {-999, 999, 0, -5, 7, 999, 5};
        int[] least = {-999, 999, 0, -7, 5, -999, -1};
        for (int n = 0; n < rows.length; n++) {
            PlainAsk x = desk();
            Desks.fill(x, 0, rows[n]);
            Desks.ask(x, "2 4");
            CHECK.due("MOST " + n, x.answer(0), most[n]);
            Desks.ask(x, "3 4");
            CHECK.due("LEAST " + n, x.answer(0), least[n]);
        }
    }

    /** "SUM of none is 0, MOST and LEAST of none NOTHING": no ROWS, none FOUND, or no values in them. */
    private static void ofNone() {
        int[] due = {0, NOTHING, NOTHING};
        for (int a = 1; a <= 3; a++) {
            PlainAsk x = desk();
            Desks.ask(x, a + " 4");
            CHECK.due("DOING " + a + " without ROWS", x.answer(0), due[a - 1]);
            x.row(0);
            CHECK.due("DOING " + a + " without values", x.answer(0), due[a - 1]);
            Desks.rows(x, 0, 19);
            CHECK.due("DOING " + a + " without values in 20 ROWS", x.answer(0), due[a - 1]);
            x.put(0, 19, 0, -3);
            CHECK.due("DOING " + a + " of one", x.answer(0), -3);
            x.word(9);
            CHECK.due("DOING " + a + " of none FOUND", x.answer(0), due[a - 1]);
            x.put(0, 18, 1, 1);
            CHECK.due("DOING " + a + " of one FOUND without value", x.answer(0), due[a - 1]);
            x.put(0, 19, 1, 1);
            CHECK.due("DOING " + a + " of one FOUND with a value", x.answer(0), -3);
        }
        PlainAsk x = desk();
        Desks.ask(x, "0");
        CHECK.due("COUNT of none", x.answer(0), 0);
    }

    /** "(missing ones aside": of WANTED; COUNT counts their ROWS. */
    private static void missingOnesAside() {
        int[] due = {-9, -4, -5};
        for (int a = 1; a <= 3; a++) {
            PlainAsk x = desk();
            Desks.fill(x, 0, new int[][] {{MISSING, 1}, {-5, 1}, {MISSING, 1}, {-4, 1}, {MISSING, 1}});
            Desks.ask(x, a + " 4");
            CHECK.due("DOING " + a, x.answer(0), due[a - 1]);
            CHECK.due("FOUND with them", x.reading(0, 5), 5);
            Desks.ask(x, "0 9");
            CHECK.due("COUNT with them", x.answer(0), 5);
        }
    }
}
