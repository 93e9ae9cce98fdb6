/** Promises 1 to 6 and 23: a new object, table, row, put, value, link, count. */
public final class TablesTest {
    private static final Check CHECK = new Check("TablesTest");
    private static final int[] FAR = {-1, Integer.MIN_VALUE, Integer.MAX_VALUE};

    public static void main(String[] args) {
        newObject();
        tables();
        rows();
        values();
        links();
        counts();
        CHECK.end();
    }

    private static void newObject() {
        PlainAsk x = new PlainAsk();
        for (int what = 0; what < 3; what++) {
            CHECK.due("new: count(" + what + ")", x.count(what), 0);
        }
        for (int w = 0; w < 40; w++) {
            CHECK.due("new: cost(" + w + ", 0)", x.cost(w, 0), PlainAsk.NONE);
        }
        CHECK.due("new: readings()", x.readings(), 0);
        CHECK.due("new: row(0)", x.row(0), PlainAsk.NONE);
        CHECK.due("new: value(0, 0, 0)", x.value(0, 0, 0), PlainAsk.NO_VALUE);
        CHECK.due("new: put(0, 0, 0, 0)", x.put(0, 0, 0, 0), PlainAsk.NONE);
        CHECK.due("new: link(0, 0, -1)", x.link(0, 0, -1), -9);
        CHECK.due("new: clear()", x.clear(), 0);
        CHECK.due("new: STATE", PlainAsk.STATE, -3);
    }

    private static void tables() {
        PlainAsk x = new PlainAsk();
        for (int columns : new int[] {0, 5, -1, Integer.MIN_VALUE, Integer.MAX_VALUE}) {
            CHECK.due("table(" + columns + ")", x.table(columns), PlainAsk.NONE);
        }
        CHECK.due("count(0) after refusals", x.count(0), 0);
        for (int columns = 1; columns <= 4; columns++) {
            CHECK.due("table(" + columns + ")", x.table(columns), columns - 1);
        }
        CHECK.due("a fifth table", x.table(1), PlainAsk.FULL);
        CHECK.due("a fifth table with 5 columns", x.table(5), PlainAsk.NONE);
        CHECK.due("count(0) with four", x.count(0), 4);
        for (int t = 0; t < 4; t++) {
            x.row(t);
            CHECK.due("last column of table " + t, x.put(t, 0, t, 7), 1);
            CHECK.due("column too far of table " + t, x.put(t, 0, t + 1, 7), PlainAsk.NONE);
        }
    }

    private static void rows() {
        PlainAsk x = new PlainAsk();
        x.table(2);
        x.table(2);
        CHECK.due("row(2)", x.row(2), PlainAsk.NONE);
        for (int t : FAR) {
            CHECK.due("row(" + t + ")", x.row(t), PlainAsk.NONE);
        }
        for (int r = 0; r < 20; r++) {
            CHECK.due("row(1)", x.row(1), r);
            CHECK.due("value of a new row", x.value(1, r, 1), PlainAsk.NOTHING);
        }
        CHECK.due("row 20", x.row(1), PlainAsk.FULL);
        CHECK.due("value(1, 20, 0)", x.value(1, 20, 0), PlainAsk.NO_VALUE);
        CHECK.due("row(0) beside a full table", x.row(0), 0);
    }

    private static void values() {
        PlainAsk x = new PlainAsk();
        x.table(2);
        x.table(4);
        x.row(0);
        x.row(1);
        x.row(1);
        CHECK.due("put 999", x.put(1, 1, 3, 999), 1);
        CHECK.due("value 999", x.value(1, 1, 3), 999);
        CHECK.due("put -999", x.put(1, 1, 3, -999), 1);
        CHECK.due("value -999", x.value(1, 1, 3), -999);
        for (int v : new int[] {1000, -1001, Integer.MIN_VALUE, Integer.MAX_VALUE, PlainAsk.NOTHING}) {
            CHECK.due("put " + v, x.put(1, 1, 3, v), PlainAsk.NONE);
        }
        CHECK.due("value after refusals", x.value(1, 1, 3), -999);
        CHECK.due("put -1000", x.put(1, 1, 3, -1000), 1);
        CHECK.due("value that went", x.value(1, 1, 3), PlainAsk.NOTHING);
        CHECK.due("put 0", x.put(1, 0, 3, 0), 1);
        CHECK.due("value 0", x.value(1, 0, 3), 0);
        CHECK.due("value beside it", x.value(1, 1, 3), PlainAsk.NOTHING);
        CHECK.due("value of another table", x.value(0, 0, 0), PlainAsk.NOTHING);
        wrongCells(x);
    }

    private static void wrongCells(PlainAsk x) {
        int[][] cells = {{2, 0, 0}, {0, 1, 0}, {0, 0, 2}, {1, 2, 0}, {1, 0, 4}};
        for (int[] at : cells) {
            CHECK.due("put at a wrong cell", x.put(at[0], at[1], at[2], 1), PlainAsk.NONE);
            CHECK.due("value at a wrong cell", x.value(at[0], at[1], at[2]), PlainAsk.NO_VALUE);
        }
        for (int far : FAR) {
            CHECK.due("put, table " + far, x.put(far, 0, 0, 1), PlainAsk.NONE);
            CHECK.due("put, row " + far, x.put(0, far, 0, 1), PlainAsk.NONE);
            CHECK.due("put, column " + far, x.put(0, 0, far, 1), PlainAsk.NONE);
            CHECK.due("value, table " + far, x.value(far, 0, 0), PlainAsk.NO_VALUE);
            CHECK.due("value, row " + far, x.value(0, far, 0), PlainAsk.NO_VALUE);
            CHECK.due("value, column " + far, x.value(0, 0, far), PlainAsk.NO_VALUE);
        }
    }

    private static void links() {
        PlainAsk x = new PlainAsk();
        x.table(2);
        x.table(3);
        CHECK.due("link to a table that is not there", x.link(0, 0, 2), -9);
        CHECK.due("link to -2", x.link(0, 0, -2), -9);
        CHECK.due("link to its own table", x.link(1, 0, 1), -9);
        CHECK.due("link of a column that is not there", x.link(0, 2, 1), -9);
        CHECK.due("link of a table that is not there", x.link(2, 0, 1), -9);
        for (int far : FAR) {
            CHECK.due("link, table " + far, x.link(far, 0, 1), -9);
            CHECK.due("link, column " + far, x.link(0, far, 1), -9);
        }
        CHECK.due("first link", x.link(0, 1, 1), -1);
        CHECK.due("refused link", x.link(0, 1, 0), -9);
        CHECK.due("refused link", x.link(0, 1, Integer.MAX_VALUE), -9);
        CHECK.due("the same link", x.link(0, 1, 1), 1);
        x.table(1);
        CHECK.due("another link", x.link(0, 1, 2), 1);
        CHECK.due("no link", x.link(0, 1, -1), 2);
        CHECK.due("no link still", x.link(0, 1, -1), -1);
        CHECK.due("link of another column", x.link(1, 2, 0), -1);
    }

    private static void counts() {
        PlainAsk x = Desks.plainWords();
        Desks.say(x, 0, 3, 14, Desks.num(5));
        CHECK.due("count(0)", x.count(0), 3);
        CHECK.due("count(1)", x.count(1), 4);
        CHECK.due("count(2)", x.count(2), 20);
        x.mean(0, 5, 0, 0, 0);
        CHECK.due("count(2), one more", x.count(2), 21);
        x.forget(0);
        CHECK.due("count(2), two less", x.count(2), 19);
        for (int what : new int[] {3, -1, Integer.MIN_VALUE, Integer.MAX_VALUE}) {
            CHECK.due("count(" + what + ")", x.count(what), PlainAsk.NONE);
        }
    }
}
