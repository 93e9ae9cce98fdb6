/** Desks whose ROWS fail just the TESTS that a test wants them to fail. */
final class Rows {
    private Rows() {
    }

    /** The COLUMN of TEST n, 0 .. 6: four of TABLE 1, three of TABLE 2. */
    static int whereOf(int n) {
        return n < 4 ? 100 + n : 200 + n - 4;
    }

    /**
     * On a desk of three TABLES without ROWS: ROW r of TABLE 0, r below many, fails just TEST r. WORDS 0 .. 6 are the
     * TESTS, WORD 10 is TABLE 0; its COLUMNS 0 and 1 LINK to TABLES 1 and 2.
     */
    static void eachFailsOne(PlainAsk x, int many) {
        int[] failing = new int[many];
        for (int r = 0; r < many; r++) {
            failing[r] = 1 << r;
        }
        fail(x, failing);
    }

    /** As eachFailsOne, but ROW r fails the TESTS of a mask. */
    static void fail(PlainAsk x, int... failing) {
        x.mean(10, 0, 0, 0, 0);
        x.link(0, 0, 1);
        x.link(0, 1, 2);
        for (int n = 0; n < 7; n++) {
            x.mean(n, 3, whereOf(n), 1, 0);
        }
        for (int r = 0; r < failing.length; r++) {
            for (int t = 0; t < 3; t++) {
                x.row(t);
            }
            x.put(0, r, 0, r);
            x.put(0, r, 1, r);
            for (int n = 0; n < 7; n++) {
                turn(x, r, n, (failing[r] >> n & 1) == 0);
            }
        }
    }

    /** Lets TEST n hold for a ROW, or not. */
    static void turn(PlainAsk x, int row, int n, boolean holds) {
        x.put(whereOf(n) / 100, row, whereOf(n) % 100, holds ? 1 : 0);
    }
}
