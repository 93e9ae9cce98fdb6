/** Desks that several tests start from. */
final class Desks {
    private static final int MISSING = -1000;

    private Desks() {
    }

    /** TABLE 0 (people): age, town (LINKS to TABLE 1), shoe. TABLE 1 (towns): size, coast. TABLE 2: alone. */
    static PlainAsk people() {
        PlainAsk x = new PlainAsk();
        x.table(3);
        x.table(2);
        x.table(1);
        fill(x, 0, new int[][] {{30, 0, 40}, {40, 1, 41}, {50, 1, MISSING}, {MISSING, 2, 43}, {20, 9, 44},
            {10, MISSING, 45}});
        fill(x, 1, new int[][] {{500, 1}, {800, 0}, {MISSING, 1}});
        x.link(0, 1, 1);
        return x;
    }

    static void fill(PlainAsk x, int table, int[][] rows) {
        for (int[] cells : rows) {
            int row = x.row(table);
            for (int column = 0; column < cells.length; column++) {
                x.put(table, row, column, cells[column]);
            }
        }
    }

    /** One MEANING each: 0 .. 2 TABLE 0 .. 2, 3 age, 4 town, 5 shoe, 6 size, 7 coast, 8 column of TABLE 2,
     *  10 .. 13 COUNT SUM MOST LEAST, 14 .. 16 above below is, 17 NOISE, 18 town is 1, 19 coast is 1, 20 coast is 0. */
    static PlainAsk plainWords() {
        PlainAsk x = people();
        for (int t = 0; t < 3; t++) {
            x.mean(t, 0, 100 * t, 0, 0);
        }
        for (int b = 0; b < 3; b++) {
            x.mean(3 + b, 1, b, 0, 0);
        }
        x.mean(6, 1, 100, 0, 0);
        x.mean(7, 1, 101, 0, 0);
        x.mean(8, 1, 200, 0, 0);
        for (int a = 0; a < 4; a++) {
            x.mean(10 + a, 2, 100 * a, 0, 0);
        }
        for (int a = 0; a < 3; a++) {
            x.mean(14 + a, 4, 100 * a, 0, 0);
        }
        x.mean(17, 5, 0, 0, 0);
        x.mean(18, 3, 1, 1, 0);
        x.mean(19, 3, 101, 1, 0);
        x.mean(20, 3, 101, 0, 0);
        return x;
    }

    /** A new LINE: tokens 0 .. 39 are WORDS, other ones NUMBERS with 1000 added. */
    static void say(PlainAsk x, int... tokens) {
        x.clear();
        for (int token : tokens) {
            if (token < 0 || token >= 40) {
                x.number(token - 1000);
            } else {
                x.word(token);
            }
        }
    }

    /** A new LINE: its TOKENS with a blank between, a NUMBER behind a #. */
    static void ask(PlainAsk x, String line) {
        x.clear();
        if (line.isEmpty()) {
            return;
        }
        for (String token : line.split(" ")) {
            if (token.startsWith("#")) {
                x.number(Integer.parseInt(token.substring(1)));
            } else {
                x.word(Integer.parseInt(token));
            }
        }
    }

    /** A new desk with TABLES of so many COLUMNS each, without ROWS. */
    static PlainAsk tables(int... columns) {
        PlainAsk x = new PlainAsk();
        for (int n : columns) {
            x.table(n);
        }
        return x;
    }

    static void rows(PlainAsk x, int table, int many) {
        for (int r = 0; r < many; r++) {
            x.row(table);
        }
    }

    static int num(int v) {
        int token = v + 1000;
        if (token < 40) {
            throw new IllegalArgumentException("say takes NUMBERS from -960 on");
        }
        return token;
    }
}
