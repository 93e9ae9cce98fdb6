/** Promises 13 to 17: readings, reading, test, answer, found. */
public final class ReadingsTest {
    private static final Check CHECK = new Check("ReadingsTest");
    private static final int[] FAR = {-1, Integer.MIN_VALUE, Integer.MAX_VALUE};

    public static void main(String[] args) {
        forms();
        noForms();
        thans();
        links();
        firstLinkCounts();
        order();
        sameWordTwice();
        tests();
        wrongNumbers();
        changes();
        lineChanges();
        atTheFirstPlaces();
        behindTheLastRow();
        CHECK.end();
    }

    /** THE LINE has one READING, with this FORM and this ANSWER. */
    private static void one(PlainAsk x, String line, int[] form, int answer) {
        CHECK.due(line + ": readings()", x.readings(), 1);
        for (int what = 1; what <= 5; what++) {
            CHECK.due(line + ": reading(0, " + what + ")", x.reading(0, what), form[what - 1]);
        }
        CHECK.due(line + ": answer(0)", x.answer(0), answer);
    }

    private static int[] form(int doing, int from, int wanted, int tests, int found) {
        return new int[] {doing, from, wanted, tests, found};
    }

    private static void forms() {
        PlainAsk x = Desks.plainWords();
        Desks.say(x, 0);
        one(x, "people", form(0, 0, -1, 0, 6), 6);
        Desks.say(x, 17, 10, 17, 0);
        one(x, "please count the people", form(0, 0, -1, 0, 6), 6);
        Desks.say(x, 11, 3);
        one(x, "sum age", form(1, 0, 0, 0, 6), 150);
        Desks.say(x, 3, 11);
        one(x, "age sum", form(1, 0, 0, 0, 6), 150);
        Desks.say(x, 12, 3, 0);
        one(x, "most age people", form(2, 0, 0, 0, 6), 50);
        Desks.say(x, 0, 13, 3);
        one(x, "people least age", form(3, 0, 0, 0, 6), 10);
        Desks.say(x, 11, 6);
        one(x, "sum size", form(1, 1, 0, 0, 3), 1300);
        Desks.say(x, 18, 11, 5);
        one(x, "town 1, sum shoe", form(1, 0, 2, 1, 2), 41);
        Desks.say(x, 2);
        one(x, "a TABLE without ROWS", form(0, 2, -1, 0, 0), 0);
        Desks.say(x, 11, 8);
        one(x, "SUM of none", form(1, 2, 0, 0, 0), 0);
        Desks.say(x, 12, 8);
        one(x, "MOST of none", form(2, 2, 0, 0, 0), PlainAsk.NOTHING);
        Desks.say(x, 13, 8);
        one(x, "LEAST of none", form(3, 2, 0, 0, 0), PlainAsk.NOTHING);
        Desks.say(x, 12, 5, 3, 16, Desks.num(50));
        one(x, "MOST of a missing value", form(2, 0, 2, 1, 1), PlainAsk.NOTHING);
    }

    private static void none(PlainAsk x, int... line) {
        Desks.say(x, line);
        CHECK.due("no reading: " + java.util.Arrays.toString(line), x.readings(), 0);
    }

    private static void noForms() {
        PlainAsk x = Desks.plainWords();
        none(x);
        none(x, 17);
        none(x, 3);
        none(x, 11);
        none(x, 18);
        none(x, 10, 3);
        none(x, 0, 3);
        none(x, 0, 11);
        none(x, 0, 0);
        none(x, 0, 1);
        none(x, 10, 10, 0);
        none(x, 11, 12, 3);
        none(x, 11, 11, 3);
        none(x, 11, 3, 5);
        none(x, 11, 3, 3);
        none(x, 1, 11, 3);
        none(x, 0, 25);
        none(x, 3, 14, Desks.num(3));
    }

    private static void thans() {
        PlainAsk x = Desks.plainWords();
        int n = Desks.num(30);
        none(x, n);
        none(x, 0, n);
        none(x, 0, 14);
        none(x, 0, 14, n);
        none(x, 14, n, 0);
        none(x, 0, 3, n);
        none(x, 0, 3, 14);
        none(x, 0, 3, 14, 17, n);
        none(x, 0, 3, 17, 14, n);
        none(x, 0, 3, 14, 14, n);
        none(x, 0, 3, 14, n, n);
        none(x, 0, 18, 14, n);
        none(x, 3, 0, 14, n);
        Desks.say(x, 0, 3, 14, n);
        one(x, "age above 30", form(0, 0, -1, 1, 2), 2);
        Desks.say(x, 3, 15, n, 0);
        one(x, "age below 30", form(0, 0, -1, 1, 2), 2);
        Desks.say(x, 3, 16, n, 17, 0);
        one(x, "age is 30", form(0, 0, -1, 1, 1), 1);
        Desks.say(x, 11, 3, 14, Desks.num(15), 5);
        one(x, "sum, age above 15, shoe", form(1, 0, 2, 1, 4), 125);
        Desks.say(x, 11, 3, 3, 14, Desks.num(15));
        one(x, "sum age, age above 15", form(1, 0, 0, 1, 4), 140);
        Desks.say(x, 3, 14, Desks.num(15), 3, 15, Desks.num(45), 0);
        one(x, "age above 15, age below 45", form(0, 0, -1, 2, 3), 3);
        Desks.say(x, 0, 3, 14, Desks.num(-900));
        one(x, "a missing value is above nothing", form(0, 0, -1, 1, 5), 5);
    }

    private static void links() {
        PlainAsk x = Desks.plainWords();
        Desks.say(x, 0, 19);
        one(x, "people of the coast", form(0, 0, -1, 1, 2), 2);
        CHECK.due("of the coast: found 0", x.found(0, 0), 0);
        CHECK.due("of the coast: found 1", x.found(0, 1), 3);
        CHECK.due("of the coast: found 2", x.found(0, 2), PlainAsk.NONE);
        Desks.say(x, 19, 18, 0);
        one(x, "coast is 1, town is 1", form(0, 0, -1, 2, 0), 0);
        Desks.say(x, 0, 6, 14, Desks.num(400));
        one(x, "size of the town above 400", form(0, 0, -1, 1, 3), 3);
        Desks.say(x, 11, 3, 20);
        one(x, "sum age, town not at the coast", form(1, 0, 0, 1, 2), 90);
        none(x, 1, 18);
        none(x, 0, 8, 14, Desks.num(0));
        Desks.say(x, 1, 18);
        x.link(1, 1, 0);
        CHECK.due("a LINK makes a READING", x.readings(), 1);
        CHECK.due("town of the person in coast", x.answer(0), 2);
        x.link(1, 1, 2);
        CHECK.due("a LINK elsewhere unmakes it", x.readings(), 0);
    }

    /** Two COLUMNS LINK to one TABLE. */
    private static void firstLinkCounts() {
        PlainAsk x = new PlainAsk();
        x.table(3);
        x.table(1);
        Desks.fill(x, 0, new int[][] {{0, 0, 1}, {0, 1, 0}, {0, 1, 1}});
        Desks.fill(x, 1, new int[][] {{5}, {6}});
        x.link(0, 2, 1);
        x.mean(0, 0, 0, 0, 0);
        x.mean(1, 3, 100, 5, 0);
        Desks.say(x, 0, 1);
        CHECK.due("by COLUMN 2: found(0, 0)", x.found(0, 0), 1);
        CHECK.due("by COLUMN 2: answer(0)", x.answer(0), 1);
        x.link(0, 1, 1);
        CHECK.due("by COLUMN 1: found(0, 0)", x.found(0, 0), 0);
        CHECK.due("by COLUMN 1: answer(0)", x.answer(0), 1);
        x.link(0, 1, -1);
        CHECK.due("by COLUMN 2 again: found(0, 0)", x.found(0, 0), 1);
        x.put(0, 1, 2, -1);
        CHECK.due("ROW -1 there is not", x.answer(0), 0);
        x.put(0, 1, 2, 2);
        CHECK.due("ROW 2 there is not", x.answer(0), 0);
        x.row(1);
        x.put(1, 2, 0, 5);
        CHECK.due("ROW 2 there is now", x.answer(0), 1);
    }

    private static void order() {
        PlainAsk x = new PlainAsk();
        x.table(1);
        x.mean(0, 0, 0, 0, 99);
        x.mean(1, 5, 0, 0, 2);
        x.mean(1, 3, 0, 1, 0);
        x.mean(1, 3, 0, 2, 1);
        Desks.say(x, 1, 0, 1);
        int[][] due = {{99, 1, 1}, {100, 1, 2}, {100, 2, 1}, {101, 0, 1}, {101, 1, 0}, {101, 2, 2}, {102, 0, 2},
            {102, 2, 0}, {103, 0, 0}};
        CHECK.due("order: readings()", x.readings(), 9);
        for (int i = 0; i < due.length; i++) {
            CHECK.due("order: COST of " + i, x.reading(i, 0), due[i][0]);
            CHECK.due("order: place 0 of " + i, x.reading(i, 10), due[i][1]);
            CHECK.due("order: place 1 of " + i, x.reading(i, 11), 0);
            CHECK.due("order: place 2 of " + i, x.reading(i, 12), due[i][2]);
        }
    }

    /** Each time that a WORD stands on THE LINE it may have another MEANING, and it costs each time. */
    private static void sameWordTwice() {
        PlainAsk x = new PlainAsk();
        x.table(1);
        x.mean(0, 0, 0, 0, 5);
        x.mean(0, 5, 0, 0, 7);
        Desks.say(x, 0, 0, 0);
        CHECK.due("twice: readings()", x.readings(), 3);
        for (int i = 0; i < 3; i++) {
            CHECK.due("twice: COST of " + i, x.reading(i, 0), 19);
            for (int p = 0; p < 3; p++) {
                CHECK.due("twice: place " + p + " of " + i, x.reading(i, 10 + p), p == i ? 0 : 1);
            }
        }
        x.mean(1, 5, 0, 0, 99);
        Desks.say(x, 0, 1, 1, 1, 1, 1, 1, 1);
        CHECK.due("dear: COST", x.reading(0, 0), 698);
        x.mean(2, 0, 0, 0, 99);
        Desks.say(x, 1, 1, 1, 1, 1, 1, 1, 2);
        CHECK.due("dearest: COST", x.reading(0, 0), 792);
        CHECK.due("dearest: readings()", x.readings(), 1);
    }

    private static void tests() {
        PlainAsk x = Desks.plainWords();
        Desks.say(x, 20, 0, 3, 15, Desks.num(-7), 5, 14, Desks.num(999));
        int[][] due = {{1, 1, 2, 0}, {0, 0, 1, -7}, {0, 2, 0, 999}};
        CHECK.due("tests: how many", x.reading(0, 4), 3);
        for (int k = 0; k < 3; k++) {
            for (int what = 0; what < 4; what++) {
                CHECK.due("test(0, " + k + ", " + what + ")", x.test(0, k, what), due[k][what]);
            }
            CHECK.due("test(0, " + k + ", 4)", x.test(0, k, 4), PlainAsk.NO_VALUE);
        }
        int[] meanings = {0, 0, 0, 0, -1, 0, 0, -1};
        for (int p = 0; p < 8; p++) {
            CHECK.due("MEANING at " + p, x.reading(0, 10 + p), meanings[p]);
        }
        CHECK.due("MEANING at 8", x.reading(0, 18), -9);
        CHECK.due("test(0, 3, 0)", x.test(0, 3, 0), PlainAsk.NO_VALUE);
        Desks.say(x, 0, 18, 18, 18, 18, 18, 18, 18);
        CHECK.due("seven TESTS", x.reading(0, 4), 7);
        CHECK.due("the last of them", x.test(0, 6, 3), 1);
    }

    private static void wrongNumbers() {
        PlainAsk x = Desks.plainWords();
        Desks.say(x, 0, 18);
        for (int i : new int[] {1, -1, Integer.MIN_VALUE, Integer.MAX_VALUE}) {
            CHECK.due("reading(" + i + ", 0)", x.reading(i, 0), -9);
            CHECK.due("test(" + i + ", 0, 0)", x.test(i, 0, 0), PlainAsk.NO_VALUE);
            CHECK.due("answer(" + i + ")", x.answer(i), PlainAsk.NO_VALUE);
            CHECK.due("found(" + i + ", 0)", x.found(i, 0), PlainAsk.NONE);
        }
        for (int far : FAR) {
            CHECK.due("reading(0, " + far + ")", x.reading(0, far), -9);
            CHECK.due("test(0, " + far + ", 0)", x.test(0, far, 0), PlainAsk.NO_VALUE);
            CHECK.due("test(0, 0, " + far + ")", x.test(0, 0, far), PlainAsk.NO_VALUE);
            CHECK.due("found(0, " + far + ")", x.found(0, far), PlainAsk.NONE);
        }
        for (int what = 6; what < 10; what++) {
            CHECK.due("reading(0, " + what + ")", x.reading(0, what), -9);
        }
        CHECK.due("reading(0, 12)", x.reading(0, 12), -9);
        CHECK.due("found(0, 0)", x.found(0, 0), 1);
        CHECK.due("found(0, 1)", x.found(0, 1), 2);
        CHECK.due("found(0, 2)", x.found(0, 2), PlainAsk.NONE);
    }

    /** What was answered ahead of a change must not be answered behind it. */
    private static void changes() {
        PlainAsk x = Desks.plainWords();
        Desks.say(x, 11, 3, 19);
        CHECK.due("ahead of changes", x.answer(0), 30);
        x.put(0, 0, 0, 31);
        CHECK.due("a value more", x.answer(0), 31);
        x.put(1, 1, 1, 1);
        CHECK.due("a linked value", x.answer(0), 121);
        x.put(0, x.row(0), 1, 0);
        CHECK.due("a ROW without the value", x.answer(0), 121);
        x.put(0, 6, 0, -1);
        CHECK.due("a ROW with it", x.answer(0), 120);
        x.mean(3, 1, 2, 0, 0);
        CHECK.due("a MEANING more", x.readings(), 2);
        CHECK.due("its answer", x.answer(1), 124);
        x.word(0);
        CHECK.due("a TABLE told", x.readings(), 2);
        x.word(1);
        CHECK.due("two TABLES told", x.readings(), 0);
    }

    /** Each call to THE LINE, and a ROW, changes what has been answered already. */
    private static void lineChanges() {
        PlainAsk x = Desks.plainWords();
        x.word(0);
        CHECK.due("a WORD", x.readings(), 1);
        x.number(3);
        CHECK.due("a NUMBER behind it", x.readings(), 0);
        x.clear();
        x.word(0);
        CHECK.due("the WORD alone", x.answer(0), 6);
        CHECK.due("its answers", x.answers(0), 1);
        x.row(0);
        CHECK.due("a ROW more", x.answer(0), 7);
        x.clear();
        CHECK.due("an empty LINE", x.readings(), 0);
        CHECK.due("its answers", x.answers(0), 0);
    }

    /** WORD 0, COLUMN 0, TABLE 0 and place 0 are like any other ones. */
    private static void atTheFirstPlaces() {
        PlainAsk x = new PlainAsk();
        x.table(1);
        x.table(1);
        Desks.fill(x, 0, new int[][] {{4}, {5}});
        Desks.fill(x, 1, new int[][] {{1}, {0}, {1}});
        x.link(1, 0, 0);
        x.mean(0, 1, 0, 0, 0);
        x.mean(1, 4, 0, 0, 0);
        x.mean(2, 0, 100, 0, 0);
        x.mean(3, 0, 0, 0, 0);
        Desks.say(x, 0, 1, Desks.num(4), 2);
        CHECK.due("by LINK from COLUMN 0", x.answer(0), 2);
        Desks.say(x, 0, 1, Desks.num(4), 3);
        CHECK.due("COLUMN 0 of TABLE 0", x.answer(0), 1);
        CHECK.due("found", x.found(0, 0), 1);
        x.forget(0);
        x.mean(0, 0, 0, 0, 0);
        Desks.say(x, Desks.num(0));
        CHECK.due("NUMBER 0 is not WORD 0", x.readings(), 0);
    }

    /** A LINK to ROW 20 of full TABLES: there is none, and none of the next TABLE. */
    private static void behindTheLastRow() {
        PlainAsk x = new PlainAsk();
        for (int t = 0; t < 4; t++) {
            x.table(4);
            for (int r = 0; r < 20; r++) {
                x.put(t, x.row(t), 0, r == 0 ? 20 : 7);
            }
            x.mean(t, 0, 100 * t, 0, 0);
            x.mean(10 + t, 3, 100 * t, 20, 0);
        }
        for (int t = 0; t < 4; t++) {
            for (int to = 0; to < 4; to++) {
                x.link(t, 0, to);
                Desks.say(x, t, 10 + to);
                CHECK.due("ROW 20 of TABLE " + to + " from " + t, x.answer(0), t == to ? 1 : 0);
            }
        }
    }
}
