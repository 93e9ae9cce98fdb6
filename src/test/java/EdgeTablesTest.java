/** The edges of part 1 and of promises 1 to 6: above each test stand the words of the document that it looks at. */
public final class EdgeTablesTest {
    private static final Check CHECK = new Check("EdgeTablesTest");
    private static final int NONE = PlainAsk.NONE, FULL = PlainAsk.FULL;
    private static final int NOTHING = PlainAsk.NOTHING, NO_VALUE = PlainAsk.NO_VALUE;
    private static final int MISSING = -1000;

    public static void main(String[] args) {
        newObject();
        fourTables();
        asTheyWereMade();
        tableNumbers();
        oneToFourColumns();
        columnNumbers();
        twentyRows();
        rowNumbers();
        fullTableBesideOthers();
        valueRange();
        aValueForEachColumn();
        withoutValues();
        missingByPut();
        linkToAnotherTable();
        linkToNone();
        linkRefused();
        linkOfEachColumn();
        numberOfARowThere();
        CHECK.end();
    }

    /** Promise 1: "No tables, no meanings, an empty LINE." */
    private static void newObject() {
        PlainAsk x = new PlainAsk();
        for (int what = 0; what < 3; what++) {
            CHECK.due("new: count(" + what + ")", x.count(what), 0);
        }
        for (int t = -1; t <= 4; t++) {
            CHECK.due("new: row(" + t + ")", x.row(t), NONE);
            CHECK.due("new: link(" + t + ", 0, -1)", x.link(t, 0, -1), -9);
        }
        for (int w = 0; w < 40; w++) {
            CHECK.due("new: cost(" + w + ", 0)", x.cost(w, 0), NONE);
            CHECK.due("new: forget(" + w + ")", x.forget(w), 0);
        }
        CHECK.due("new: readings()", x.readings(), 0);
        CHECK.due("new: agree(0, 0, 0)", x.agree(0, 0, 0), NONE);
        CHECK.due("new: clear()", x.clear(), 0);
        CHECK.due("new: table(1)", x.table(1), 0);
    }

    /** "TABLES 0 .. 3"; promise 2: "its number. .. FULL." */
    private static void fourTables() {
        PlainAsk x = new PlainAsk();
        for (int t = 0; t < 4; t++) {
            CHECK.due("TABLES ahead of " + t, x.count(0), t);
            CHECK.due("TABLE " + t, x.table(1), t);
        }
        for (int again = 0; again < 3; again++) {
            CHECK.due("a fifth TABLE", x.table(1), FULL);
            CHECK.due("a fifth TABLE of four COLUMNS", x.table(4), FULL);
            CHECK.due("TABLES", x.count(0), 4);
        }
        CHECK.due("the last one", x.row(3), 0);
        CHECK.due("the fifth is not there", x.row(4), NONE);
    }

    /** "TABLES .. as they were made, each with": the number of a TABLE tells which one it is. */
    private static void asTheyWereMade() {
        int[] columns = {3, 1, 4, 2};
        PlainAsk x = Desks.tables(columns);
        for (int t = 0; t < 4; t++) {
            Desks.rows(x, t, t + 1);
            CHECK.due("last COLUMN of TABLE " + t, x.put(t, t, columns[t] - 1, 10 * t), 1);
            CHECK.due("COLUMN too far of TABLE " + t, x.put(t, t, columns[t], 1), NONE);
            CHECK.due("ROW too far of TABLE " + t, x.put(t, t + 1, 0, 1), NONE);
        }
        for (int t = 0; t < 4; t++) {
            CHECK.due("value in TABLE " + t, x.value(t, t, columns[t] - 1), 10 * t);
        }
    }

    /** "NONE: there is no such thing", of a TABLE: in each call that names one, with 0 to 4 of them made. */
    private static void tableNumbers() {
        for (int made = 0; made <= 4; made++) {
            for (int t = 0; t < made; t++) {
                tableNumber(made, t, true);
            }
            for (int t : Ints.outside(0, made - 1)) {
                tableNumber(made, t, false);
            }
        }
    }

    private static void tableNumber(int made, int t, boolean known) {
        PlainAsk x = new PlainAsk();
        for (int n = 0; n < made; n++) {
            x.table(2);
            x.row(n);
        }
        String name = made + " TABLES, number " + t + ": ";
        CHECK.due(name + "row", x.row(t), known ? 1 : NONE);
        CHECK.due(name + "put", x.put(t, 0, 0, 5), known ? 1 : NONE);
        CHECK.due(name + "value", x.value(t, 0, 0), known ? 5 : NO_VALUE);
        CHECK.due(name + "link", x.link(t, 0, -1), known ? -1 : -9);
        int other = t == 0 ? 1 : 0;
        if (t != -1 && other < made) {
            CHECK.due(name + "link to it", x.link(other, 0, t), known ? -1 : -9);
        }
        if (t >= -1 && t <= 4) {
            CHECK.due(name + "mean TABLE", x.mean(0, 0, 100 * t, 0, 0), known ? 0 : NONE);
            CHECK.due(name + "mean COLUMN", x.mean(1, 1, 100 * t + 1, 0, 0), known ? 0 : NONE);
            CHECK.due(name + "mean VALUE", x.mean(2, 3, 100 * t + 1, 7, 0), known ? 0 : NONE);
        }
    }

    /** "each with 1 to 4 COLUMNS"; promise 2: "NONE". */
    private static void oneToFourColumns() {
        PlainAsk x = new PlainAsk();
        for (int columns : Ints.outside(1, 4)) {
            CHECK.due("table(" + columns + ")", x.table(columns), NONE);
            CHECK.due("TABLES after table(" + columns + ")", x.count(0), 0);
        }
        CHECK.due("table(-1)", x.table(-1), NONE);
        CHECK.due("table(1)", x.table(1), 0);
        CHECK.due("table(4)", x.table(4), 1);
        for (int columns = 1; columns <= 4; columns++) {
            CHECK.due("table(" + columns + ") of a new desk", new PlainAsk().table(columns), 0);
        }
    }

    /** "NONE: there is no such thing", of a COLUMN: in each call that names one, with 1 to 4 of them. */
    private static void columnNumbers() {
        for (int columns = 1; columns <= 4; columns++) {
            for (int c = 0; c < columns; c++) {
                columnNumber(columns, c, true);
            }
            for (int c : Ints.outside(0, columns - 1)) {
                columnNumber(columns, c, false);
            }
        }
    }

    /** The TABLES beside it have more COLUMNS, or less. */
    private static void columnNumber(int columns, int c, boolean known) {
        PlainAsk x = Desks.tables(4, columns, 1);
        x.row(1);
        String name = columns + " COLUMNS, number " + c + ": ";
        CHECK.due(name + "put", x.put(1, 0, c, -8), known ? 1 : NONE);
        CHECK.due(name + "value", x.value(1, 0, c), known ? -8 : NO_VALUE);
        CHECK.due(name + "link", x.link(1, c, 0), known ? -1 : -9);
        CHECK.due(name + "link to none", x.link(1, c, -1), known ? 0 : -9);
        if (c >= 0 && c <= 4) {
            CHECK.due(name + "mean COLUMN", x.mean(1, 1, 100 + c, 0, 0), known ? 0 : NONE);
            CHECK.due(name + "mean VALUE", x.mean(2, 3, 100 + c, 7, 0), known ? 0 : NONE);
        }
    }

    /** "ROWS, at most 20, numbered from 0 on"; promise 3: "its number. NONE, FULL." */
    private static void twentyRows() {
        for (int t = 0; t < 4; t++) {
            PlainAsk x = Desks.tables(1, 2, 3, 4);
            for (int r = 0; r < 20; r++) {
                CHECK.due("ROW " + r + " of TABLE " + t, x.row(t), r);
            }
            for (int again = 0; again < 3; again++) {
                CHECK.due("ROW 20 of TABLE " + t, x.row(t), FULL);
            }
            CHECK.due("put in the last ROW", x.put(t, 19, 0, 3), 1);
            CHECK.due("value in the last ROW", x.value(t, 19, 0), 3);
            CHECK.due("put behind the last ROW", x.put(t, 20, 0, 3), NONE);
            CHECK.due("value behind the last ROW", x.value(t, 20, 0), NO_VALUE);
        }
    }

    /** "NONE: there is no such thing", of a ROW: with 0 to 20 of them made. */
    private static void rowNumbers() {
        for (int made = 0; made <= 20; made++) {
            PlainAsk x = Desks.tables(1, 2, 1);
            Desks.rows(x, 0, 20);
            Desks.rows(x, 1, made);
            Desks.rows(x, 2, 20);
            for (int r = 0; r < made; r++) {
                CHECK.due(made + " ROWS: put in " + r, x.put(1, r, 1, r), 1);
                CHECK.due(made + " ROWS: value in " + r, x.value(1, r, 1), r);
            }
            for (int r : Ints.outside(0, made - 1)) {
                CHECK.due(made + " ROWS: put in " + r, x.put(1, r, 1, 5), NONE);
                CHECK.due(made + " ROWS: put -1000 in " + r, x.put(1, r, 1, MISSING), NONE);
                CHECK.due(made + " ROWS: value in " + r, x.value(1, r, 1), NO_VALUE);
            }
        }
    }

    /** "ROWS, at most 20", of each TABLE: one that is full leaves room in the other ones. */
    private static void fullTableBesideOthers() {
        PlainAsk x = Desks.tables(1, 1, 1, 1);
        for (int t = 0; t < 4; t++) {
            for (int r = 0; r < 20; r++) {
                CHECK.due("ROW " + r + " of TABLE " + t, x.row(t), r);
            }
        }
        for (int t = 0; t < 4; t++) {
            CHECK.due("ROW 20 of TABLE " + t, x.row(t), FULL);
        }
        CHECK.due("a ROW of a TABLE that is not there", x.row(4), NONE);
    }

    /** "a value (-999 .. 999)"; promise 4: "A value of a ROW: 1 .. NONE." */
    private static void valueRange() {
        PlainAsk x = Desks.tables(1);
        x.row(0);
        for (int v : new int[] {-999, -998, -1, 0, 1, 998, 999}) {
            CHECK.due("put " + v, x.put(0, 0, 0, v), 1);
            CHECK.due("value " + v, x.value(0, 0, 0), v);
        }
        for (int v : new int[] {1000, 1001, -1001, -1002, NOTHING, NO_VALUE, Ints.LEAST, Ints.GREATEST}) {
            CHECK.due("put " + v, x.put(0, 0, 0, v), NONE);
            CHECK.due("value after put " + v, x.value(0, 0, 0), 999);
        }
    }

    /** "a value .. for each COLUMN": all 320 of a full desk at once, on four objects for the sake of 512 calls. */
    private static void aValueForEachColumn() {
        for (int looked = 0; looked < 4; looked++) {
            PlainAsk x = Desks.tables(4, 4, 4, 4);
            for (int n = 0; n < 320; n++) {
                if (n % 4 == 0) {
                    x.row(n / 80);
                }
                x.put(n / 80, n / 4 % 20, n % 4, n - 160);
            }
            for (int n = 80 * looked; n < 80 * looked + 80; n++) {
                CHECK.due("value " + n, x.value(n / 80, n / 4 % 20, n % 4), n - 160);
            }
        }
    }

    /** "or none"; promise 3: "A ROW more, without values"; promise 5: "NOTHING if it is missing". */
    private static void withoutValues() {
        PlainAsk x = Desks.tables(4);
        for (int r = 0; r < 20; r++) {
            x.row(0);
            for (int c = 0; c < 4; c++) {
                CHECK.due("ROW " + r + ", COLUMN " + c, x.value(0, r, c), NOTHING);
                x.put(0, r, c, 0);
                CHECK.due("ROW " + r + ", COLUMN " + c + " with 0", x.value(0, r, c), 0);
            }
        }
    }

    /** Promise 4: "v -1000: it is missing." */
    private static void missingByPut() {
        PlainAsk x = Desks.tables(2);
        Desks.rows(x, 0, 2);
        CHECK.due("put -1000 where none is", x.put(0, 0, 0, MISSING), 1);
        CHECK.due("value where none was", x.value(0, 0, 0), NOTHING);
        for (int c = 0; c < 2; c++) {
            x.put(0, 0, c, -999);
            x.put(0, 1, c, 4);
        }
        CHECK.due("put -1000", x.put(0, 0, 1, MISSING), 1);
        CHECK.due("value that went", x.value(0, 0, 1), NOTHING);
        CHECK.due("the COLUMN beside it", x.value(0, 0, 0), -999);
        CHECK.due("the ROW beside it", x.value(0, 1, 1), 4);
        CHECK.due("put -1000 again", x.put(0, 0, 1, MISSING), 1);
        CHECK.due("put -1001", x.put(0, 1, 1, -1001), NONE);
        CHECK.due("value after put -1001", x.value(0, 1, 1), 4);
        CHECK.due("a value again", x.put(0, 0, 1, -999), 1);
        CHECK.due("it is there", x.value(0, 0, 1), -999);
    }

    /** "A COLUMN may LINK to another TABLE"; promise 6: "what it did", "-9: NONE (also to its own TABLE)". */
    private static void linkToAnotherTable() {
        for (int t = 0; t < 4; t++) {
            PlainAsk x = Desks.tables(1, 1, 1, 1);
            int before = -1;
            for (int to = 0; to < 4; to++) {
                CHECK.due("link(" + t + ", 0, " + to + ")", x.link(t, 0, to), to == t ? -9 : before);
                before = to == t ? before : to;
            }
            CHECK.due("link of " + t + " to its own TABLE", x.link(t, 0, t), -9);
            CHECK.due("what it did", x.link(t, 0, before), before);
        }
    }

    /** Promise 6: "(-1: to none): what it did (-1: to none)." */
    private static void linkToNone() {
        PlainAsk x = Desks.tables(1, 1);
        CHECK.due("to none, as a new COLUMN", x.link(0, 0, -1), -1);
        CHECK.due("to TABLE 1 from none", x.link(0, 0, 1), -1);
        CHECK.due("to none from TABLE 1", x.link(0, 0, -1), 1);
        CHECK.due("to none from none", x.link(0, 0, -1), -1);
        CHECK.due("to TABLE 0 from none", x.link(1, 0, 0), -1);
        CHECK.due("to none from TABLE 0", x.link(1, 0, -1), 0);
    }

    /** Promise 6: "-9: NONE". */
    private static void linkRefused() {
        PlainAsk x = Desks.tables(2, 2);
        x.link(0, 1, 1);
        for (int to : Ints.outside(-1, 1)) {
            CHECK.due("link to " + to, x.link(0, 1, to), -9);
        }
        for (int t : Ints.outside(0, 1)) {
            CHECK.due("link of TABLE " + t, x.link(t, 1, 0), -9);
            CHECK.due("link of TABLE " + t + " to none", x.link(t, 1, -1), -9);
        }
        for (int c : Ints.outside(0, 1)) {
            CHECK.due("link of COLUMN " + c, x.link(0, c, 1), -9);
            CHECK.due("link of COLUMN " + c + " to none", x.link(0, c, -1), -9);
        }
        CHECK.due("nothing was changed", x.link(0, 1, 1), 1);
        CHECK.due("nor beside it", x.link(0, 0, 1), -1);
    }

    /** "A COLUMN may LINK": each of sixteen to a TABLE of its own choice. */
    private static void linkOfEachColumn() {
        PlainAsk x = Desks.tables(4, 4, 4, 4);
        for (int n = 0; n < 16; n++) {
            CHECK.due("first LINK of " + n, x.link(n / 4, n % 4, linkOf(n)), -1);
        }
        for (int n = 0; n < 16; n++) {
            CHECK.due("LINK of " + n, x.link(n / 4, n % 4, -1), linkOf(n));
        }
    }

    private static int linkOf(int n) {
        return n % 4 == 3 ? -1 : (n / 4 + 1 + n % 4) % 4;
    }

    /** "its value is then the number of a ROW there (if there is one)": no ROW of the TABLES beside it stands in. */
    private static void numberOfARowThere() {
        for (int rows : new int[] {0, 1, 3, 19, 20}) {
            PlainAsk x = Desks.tables(1, 1, 1, 1);
            x.row(0);
            for (int t = 1; t < 4; t++) {
                for (int r = 0; r < (t == 2 ? rows : 20); r++) {
                    x.put(t, x.row(t), 0, 7);
                }
            }
            x.link(0, 0, 2);
            x.mean(0, 0, 0, 0, 0);
            x.mean(1, 3, 200, 7, 0);
            Desks.ask(x, "0 1");
            for (int v : new int[] {MISSING, -999, -20, -1, 0, rows - 1, rows, rows + 1, 19, 20, 21, 999}) {
                CHECK.due("put " + v, x.put(0, 0, 0, v), 1);
                CHECK.due(rows + " ROWS there: by " + v, x.answer(0), Ints.isIn(v, 0, rows - 1) ? 1 : 0);
            }
        }
    }
}
