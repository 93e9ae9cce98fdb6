/** The edges of TAKE and WHY of part 3 and of promises 21 and 22. */
public final class EdgeTakeWhyTest {
    private static final Check CHECK = new Check("EdgeTakeWhyTest");
    private static final int NONE = PlainAsk.NONE, NO_WAY = -5;
    private static final int TABLE = 0, COLUMN = 1, VALUE = 3, THAN = 4, NOISE = 5;
    private static final String SEVEN = "10 0 1 2 3 4 5 6";

    public static void main(String[] args) {
        takeOneLess();
        takeOneMore();
        takeManyTimes();
        takeHowMany();
        takeEachWordOnce();
        takeByTheFirstPlace();
        takeNumbersAndOthers();
        takeNone();
        takeChangesTheOrder();
        whySomethingIsFound();
        whyWithoutRows();
        whyEachSet();
        whyFewest();
        whyLeastMask();
        whyByLinks();
        whyNone();
        CHECK.end();
    }

    /** WORD 0 TABLE 0, WORD 1 NOISE at these COSTS, THE LINE "0 1". */
    private static PlainAsk noise(int... costs) {
        PlainAsk x = Desks.tables(1);
        x.mean(0, TABLE, 0, 0, 0);
        for (int cost : costs) {
            x.mean(1, NOISE, 0, 0, cost);
        }
        Desks.ask(x, "0 1");
        return x;
    }

    /** The number of the READING in which the WORD at a place has a MEANING. */
    private static int readingWith(PlainAsk x, int place, int meaning) {
        for (int i = 0; i < x.readings(); i++) {
            if (x.reading(i, 10 + place) == meaning) {
                return i;
            }
        }
        return -1;
    }

    /** "the MEANING that it has there costs one less (0 at least)". */
    private static void takeOneLess() {
        int[][] due = {{0, 0}, {1, 0}, {2, 1}, {50, 49}, {98, 97}, {99, 98}};
        for (int[] pair : due) {
            PlainAsk x = noise(pair[0]);
            CHECK.due("take at " + pair[0], x.take(0), pair[0] == pair[1] ? 0 : 1);
            CHECK.due("COST from " + pair[0], x.cost(1, 0), pair[1]);
        }
    }

    /** "the other ones one more (99 at most)". */
    private static void takeOneMore() {
        int[][] due = {{0, 1}, {1, 2}, {50, 51}, {97, 98}, {98, 99}, {99, 99}};
        for (int[] pair : due) {
            for (int[] more : due) {
                for (int taken = 0; taken < 3; taken++) {
                    int[] costs = {pair[0], more[0], pair[0]};
                    int[] then = {pair[1], more[1], pair[1]};
                    costs[taken] = 40;
                    then[taken] = 39;
                    PlainAsk x = noise(costs);
                    int changed = 0;
                    for (int m = 0; m < 3; m++) {
                        changed += costs[m] == then[m] ? 0 : 1;
                    }
                    CHECK.due("take " + taken, x.take(readingWith(x, 1, taken)), changed);
                    for (int m = 0; m < 3; m++) {
                        CHECK.due("COST from " + costs[m], x.cost(1, m), then[m]);
                    }
                }
            }
        }
    }

    /** "0 at least .. 99 at most": also when TAKEN again and again. */
    private static void takeManyTimes() {
        PlainAsk x = noise(2, 97);
        int[] changed = {2, 2, 0, 0};
        int[][] costs = {{1, 98}, {0, 99}, {0, 99}, {0, 99}};
        for (int n = 0; n < 4; n++) {
            CHECK.due("take, time " + n, x.take(0), changed[n]);
            CHECK.due("the taken one, time " + n, x.cost(1, 0), costs[n][0]);
            CHECK.due("the other one, time " + n, x.cost(1, 1), costs[n][1]);
        }
        CHECK.due("the other one is taken", x.take(1), 2);
        CHECK.due("1 from 0", x.cost(1, 0), 1);
        CHECK.due("98 from 99", x.cost(1, 1), 98);
    }

    /** Promise 21: "how many COSTS became other": 24 at most. */
    private static void takeHowMany() {
        PlainAsk x = Desks.tables(3);
        for (int w = 0; w < 8; w++) {
            for (int m = 0; m < 3; m++) {
                x.mean(w, w == 0 ? TABLE : NOISE, 0, 0, 50);
            }
        }
        Desks.ask(x, "0 1 2 3 4 5 6 7");
        CHECK.due("all of eight WORDS", x.take(6560), 24);
        for (int w = 0; w < 8; w++) {
            for (int m = 0; m < 3; m++) {
                CHECK.due("COST of WORD " + w + ", MEANING " + m, x.cost(w, m), m == 2 ? 49 : 51);
            }
        }
        CHECK.due("none becomes other", noise(0, 99, 99).take(0), 0);
        CHECK.due("one becomes other: the taken one", noise(1, 99, 99).take(0), 1);
        CHECK.due("one becomes other: another one", noise(0, 99, 98).take(0), 1);
        CHECK.due("two become other", noise(0, 98, 98).take(0), 2);
    }

    /** "of each WORD of THE LINE (each once". */
    private static void takeEachWordOnce() {
        for (String line : new String[] {"0 1", "0 1 1", "1 1 0 1", "1 1 1 1 1 1 1 0"}) {
            PlainAsk x = noise(20, 40);
            Desks.ask(x, line);
            CHECK.due("take of '" + line + "'", x.take(0), 2);
            CHECK.due("the taken one of '" + line + "'", x.cost(1, 0), 19);
            CHECK.due("the other one of '" + line + "'", x.cost(1, 1), 41);
        }
    }

    /** "by the first place where it stands)". */
    private static void takeByTheFirstPlace() {
        for (int first = 0; first < 3; first++) {
            for (int second = 0; second < 3; second++) {
                PlainAsk x = noise(20, 20, 20);
                Desks.ask(x, "1 0 1");
                CHECK.due("take of " + first + " and " + second, x.take(3 * first + second), 3);
                for (int m = 0; m < 3; m++) {
                    CHECK.due("COST of " + m, x.cost(1, m), m == first ? 19 : 21);
                }
            }
        }
    }

    /** "of each WORD of THE LINE": no NUMBER, and no WORD beside it. */
    private static void takeNumbersAndOthers() {
        PlainAsk x = Desks.tables(1);
        x.mean(0, TABLE, 0, 0, 10);
        x.mean(1, COLUMN, 0, 0, 20);
        x.mean(2, THAN, 0, 0, 30);
        for (int w = 3; w < 8; w++) {
            x.mean(w, NOISE, 0, 0, 40);
        }
        Desks.ask(x, "0 1 2 #5");
        CHECK.due("three WORDS and NUMBER 5", x.take(0), 3);
        int[] due = {9, 19, 29, 40, 40, 40, 40, 40};
        for (int w = 0; w < 8; w++) {
            CHECK.due("COST of WORD " + w, x.cost(w, 0), due[w]);
        }
    }

    /** Promise 21: "NONE"; "What is refused changes nothing". */
    private static void takeNone() {
        PlainAsk x = noise(20, 40);
        for (int i : Ints.outside(0, 1)) {
            CHECK.due("take(" + i + ")", x.take(i), NONE);
            CHECK.due("COST after take(" + i + ")", x.cost(1, 0), 20);
            CHECK.due("COST after take(" + i + ")", x.cost(1, 1), 40);
        }
        for (String line : new String[] {"", "1", "0 0", "0 5"}) {
            Desks.ask(x, line);
            CHECK.due("take(0) of '" + line + "'", x.take(0), NONE);
            CHECK.due("COST after '" + line + "'", x.cost(1, 0), 20);
        }
    }

    /** What was learnt counts at once: the READINGS are numbered anew. */
    private static void takeChangesTheOrder() {
        PlainAsk x = noise(20, 21);
        CHECK.due("the first ahead", x.reading(0, 11), 0);
        CHECK.due("take(1)", x.take(1), 2);
        CHECK.due("the first behind", x.reading(0, 11), 1);
        CHECK.due("its COST", x.reading(0, 0), 20);
        CHECK.due("COST of the other one", x.reading(1, 0), 21);
        CHECK.due("NEAR by 0", x.agree(0, 1, 0), 0);
        CHECK.due("NEAR by 1", x.agree(1, 1, 0), 1);
    }

    private static PlainAsk failing(int... masks) {
        PlainAsk x = Desks.tables(3, 4, 4);
        Rows.fail(x, masks);
        Desks.ask(x, SEVEN);
        return x;
    }

    /** Promise 22: "0: something is FOUND". */
    private static void whySomethingIsFound() {
        CHECK.due("one ROW, found", failing(0).why(0), 0);
        CHECK.due("the last of some, found", failing(127, 1, 2, 0).why(0), 0);
        CHECK.due("the first of some, found", failing(0, 1, 2, 127).why(0), 0);
        PlainAsk x = failing(127);
        Desks.ask(x, "10");
        CHECK.due("without TESTS", x.why(0), 0);
    }

    /** Promise 22: "-5: nothing is without any TEST either": there is no ROW. */
    private static void whyWithoutRows() {
        PlainAsk x = Desks.tables(3, 4, 4);
        Rows.fail(x);
        Desks.rows(x, 1, 3);
        StringBuilder line = new StringBuilder("10");
        for (int tests = 0; tests <= 7; tests++) {
            Desks.ask(x, line.toString());
            CHECK.due("no ROWS, " + tests + " TESTS", x.why(0), NO_WAY);
            line.append(" ").append(tests);
        }
        x.row(0);
        CHECK.due("a ROW that fails all", x.why(0), 127);
        Desks.ask(x, "10");
        CHECK.due("a ROW, no TEST", x.why(0), 0);
    }

    /** "the fewest TESTS (at most 8) without which something is", "(bit i: TEST i)": each set of seven. */
    private static void whyEachSet() {
        PlainAsk x = failing(0);
        int set = 0;
        for (int n = 1; n < 128; n++) {
            int turned = Integer.numberOfTrailingZeros(n);
            set ^= 1 << turned;
            Rows.turn(x, 0, turned, (set >> turned & 1) == 0);
            CHECK.due("the ROW fails " + set, x.why(0), set);
        }
        PlainAsk y = failing(127);
        StringBuilder line = new StringBuilder("10");
        for (int tests = 1; tests <= 7; tests++) {
            line.append(" ").append(tests - 1);
            Desks.ask(y, line.toString());
            CHECK.due("all of " + tests, y.why(0), (1 << tests) - 1);
        }
    }

    /** "the fewest TESTS": ahead of a lesser mask. */
    private static void whyFewest() {
        CHECK.due("64 ahead of 3", failing(3, 64).why(0), 64);
        CHECK.due("64 ahead of 3, the other way round", failing(64, 3).why(0), 64);
        CHECK.due("96 ahead of 7", failing(7, 127, 96).why(0), 96);
        CHECK.due("126 of six ahead of 127", failing(127, 126).why(0), 126);
    }

    /** "of several sets the one with the least mask". */
    private static void whyLeastMask() {
        CHECK.due("1 ahead of 2", failing(1, 2).why(0), 1);
        CHECK.due("1 ahead of 2, the other way round", failing(2, 1).why(0), 1);
        CHECK.due("3 ahead of 5 and 6", failing(6, 5, 3).why(0), 3);
        CHECK.due("32 ahead of 64", failing(64, 127, 32).why(0), 32);
        CHECK.due("63 ahead of 126", failing(126, 95, 63).why(0), 63);
        CHECK.due("like sets", failing(5, 5).why(0), 5);
        PlainAsk x = Desks.tables(3, 4, 4);
        Rows.eachFailsOne(x, 7);
        Desks.ask(x, SEVEN);
        CHECK.due("each fails one", x.why(0), 1);
        Desks.ask(x, "10 6 5 4 3 2 1 0");
        CHECK.due("each fails one, the TESTS turned round", x.why(0), 1);
        Desks.ask(x, "10 1 1");
        CHECK.due("a ROW that fails none of them", x.why(0), 0);
    }

    /** A TEST that no ROW can pass, as its value or the ROW behind the LINK is missing, is in the way too. */
    private static void whyByLinks() {
        PlainAsk x = failing(0);
        x.put(0, 0, 0, -1000);
        CHECK.due("the LINK to TABLE 1 is missing", x.why(0), 15);
        x.put(0, 0, 1, 1);
        CHECK.due("and ROW 1 of TABLE 2", x.why(0), 127);
        x.put(0, 0, 0, 0);
        CHECK.due("only ROW 1 of TABLE 2", x.why(0), 112);
        x.put(0, 0, 1, 0);
        x.put(2, 0, 2, -1000);
        CHECK.due("only a value of TABLE 2", x.why(0), 64);
        x.put(2, 0, 2, 1);
        CHECK.due("nothing any more", x.why(0), 0);
    }

    /** Promise 22: "NONE". */
    private static void whyNone() {
        PlainAsk x = failing(127);
        for (int i : Ints.outside(0, 0)) {
            CHECK.due("why(" + i + ")", x.why(i), NONE);
        }
        for (String line : new String[] {"", "0", "10 10", "10 20"}) {
            Desks.ask(x, line);
            CHECK.due("why(0) of '" + line + "'", x.why(0), NONE);
        }
        x.mean(8, VALUE, Rows.whereOf(0), 0, 0);
        Desks.ask(x, "8 10");
        CHECK.due("why(0) of the opposite", x.why(0), 0);
    }
}
