/** Promises 18 to 22: answers, back, agree, take, why. */
public final class DoubtsTest {
    private static final Check CHECK = new Check("DoubtsTest");
    private static final int[] FAR = {-1, 1001, Integer.MIN_VALUE, Integer.MAX_VALUE};

    public static void main(String[] args) {
        nearness();
        asking();
        askingTheFirstOfLikePlaces();
        withoutReadings();
        agreeing();
        taking();
        takingTheFirstPlace();
        takingAtTheEnds();
        whyNothing();
        CHECK.end();
    }

    /** TABLE 0 with the values 1, 2, 2, 3, 3, 3. WORD 0: TABLE. */
    private static PlainAsk desk() {
        PlainAsk x = new PlainAsk();
        x.table(1);
        Desks.fill(x, 0, new int[][] {{1}, {2}, {2}, {3}, {3}, {3}});
        x.mean(0, 0, 0, 0, 0);
        return x;
    }

    private static void nearness() {
        PlainAsk x = desk();
        x.mean(1, 3, 0, 1, 10);
        x.mean(1, 3, 0, 2, 20);
        x.mean(1, 3, 0, 3, 99);
        Desks.say(x, 0, 1);
        int[][] due = {{0, 1}, {9, 1}, {10, 2}, {88, 2}, {89, 3}, {1000, 3}};
        for (int[] pair : due) {
            CHECK.due("answers(" + pair[0] + ")", x.answers(pair[0]), pair[1]);
        }
        for (int d : FAR) {
            CHECK.due("answers(" + d + ")", x.answers(d), PlainAsk.NONE);
            CHECK.due("back(" + d + ")", x.back(d), PlainAsk.NONE);
            CHECK.due("agree(" + d + ", 1, 0)", x.agree(d, 1, 0), PlainAsk.NONE);
        }
        x.put(0, 0, 0, 2);
        x.put(0, 1, 0, 1);
        x.put(0, 2, 0, 1);
        CHECK.due("answers with like ones unlike ROWS", x.answers(1000), 3);
        x.put(0, 1, 0, 2);
        x.put(0, 3, 0, 2);
        x.put(0, 2, 0, 3);
        CHECK.due("none, three and three", x.answers(1000), 2);
        x.table(1);
        x.mean(2, 0, 0, 0, 0);
        x.mean(2, 0, 100, 0, 0);
        Desks.say(x, 2);
        for (int rows = 0; rows < 8; rows++) {
            CHECK.due("six ROWS and " + rows, x.answers(0), rows == 6 ? 1 : 2);
            x.row(1);
        }
    }

    private static void asking() {
        PlainAsk x = desk();
        x.mean(1, 3, 0, 1, 0);
        x.mean(1, 3, 0, 2, 0);
        x.mean(2, 5, 0, 0, 0);
        x.mean(2, 3, 0, 9, 5);
        Desks.say(x, 0, 1, 2);
        CHECK.due("by 0 only place 1 parts", x.back(0), 1);
        CHECK.due("by 4 as well", x.back(4), 1);
        // place 1: for each MEANING 2 ANSWERS at worst; place 2: NOISE leaves 1 and 2, the TEST leaves 0
        CHECK.due("by 5 the first of like ones", x.back(5), 1);
        x.forget(2);
        x.mean(2, 3, 0, 1, 0);
        x.mean(2, 3, 0, 2, 0);
        x.mean(2, 3, 0, 3, 0);
        // place 1: 1: {1, 0}, 2: {0, 2}; place 2: 1: {1, 0}, 2: {0, 2}, 3: {0}
        CHECK.due("worst counts, not the mean", x.back(0), 1);
        x.forget(1);
        x.mean(1, 5, 0, 0, 0);
        x.mean(1, 3, 0, 3, 0);
        // place 1: NOISE {1, 2, 3}; place 2: 1: {1, 0}, 2: {2, 0}, 3: {3, 3}
        CHECK.due("a later place parts better", x.back(0), 2);
        x.forget(1);
        x.forget(2);
        x.mean(1, 3, 0, 1, 0);
        x.mean(1, 3, 0, 2, 0);
        x.mean(1, 5, 0, 0, 0);
        x.mean(2, 3, 0, 1, 0);
        x.mean(2, 5, 0, 0, 0);
        // place 1: 1: {1, 1}, 2: {0, 2}, NOISE: {1, 6}; place 2: 1: {1, 0, 1}, NOISE: {1, 2, 6}
        CHECK.due("an earlier place parts better", x.back(0), 1);
        Desks.say(x, 2, 1, 0);
        CHECK.due("the same place behind the other", x.back(0), 1);
    }

    private static void askingTheFirstOfLikePlaces() {
        PlainAsk x = desk();
        x.mean(1, 5, 0, 0, 0);
        x.mean(1, 5, 0, 0, 0);
        Desks.say(x, 1, 0, 1);
        CHECK.due("no doubt", x.answers(0), 1);
        CHECK.due("back without doubt: MEANINGS are unlike", x.back(0), 0);
        Desks.say(x, 0, 1, 1);
        CHECK.due("not the place where they are like", x.back(0), 1);
        x.mean(2, 1, 0, 0, 0);
        x.mean(3, 4, 0, 0, 0);
        Desks.say(x, 0, 2, 3, Desks.num(1));
        CHECK.due("one READING", x.back(1000), -5);
    }

    private static void withoutReadings() {
        PlainAsk x = desk();
        Desks.say(x, 1);
        CHECK.due("answers without READINGS", x.answers(0), 0);
        CHECK.due("back without READINGS", x.back(0), -5);
        CHECK.due("agree without READINGS", x.agree(0, 0, 0), 0);
        CHECK.due("take without READINGS", x.take(0), PlainAsk.NONE);
        CHECK.due("why without READINGS", x.why(0), PlainAsk.NONE);
        CHECK.due("answers(-1) without READINGS", x.answers(-1), PlainAsk.NONE);
        CHECK.due("back(1001) without READINGS", x.back(1001), PlainAsk.NONE);
    }

    private static void agreeing() {
        PlainAsk x = desk();
        x.mean(1, 3, 0, 1, 0);
        x.mean(1, 3, 0, 2, 3);
        x.mean(1, 5, 0, 0, 6);
        x.mean(2, 1, 0, 0, 0);
        x.mean(3, 4, 0, 0, 0);
        Desks.say(x, 1, 0, 1, 2, 3, Desks.num(0));
        CHECK.due("agree(0, 0, 0)", x.agree(0, 0, 0), 1);
        CHECK.due("agree(0, 0, 1)", x.agree(0, 0, 1), 0);
        CHECK.due("agree(3, 0, 0)", x.agree(3, 0, 0), 2);
        CHECK.due("agree(3, 0, 1)", x.agree(3, 0, 1), 1);
        CHECK.due("agree(6, 2, 2)", x.agree(6, 2, 2), 1);
        CHECK.due("agree(1000, 1, 0)", x.agree(1000, 1, 0), 9);
        CHECK.due("agree(1000, 2, 2)", x.agree(1000, 2, 2), 3);
        CHECK.due("a MEANING that is not there", x.agree(1000, 2, 3), 0);
        CHECK.due("a MEANING -1", x.agree(1000, 2, -1), 0);
        CHECK.due("at a NUMBER", x.agree(0, 5, 0), PlainAsk.NONE);
        CHECK.due("at a NUMBER, MEANING -1", x.agree(0, 5, -1), PlainAsk.NONE);
        CHECK.due("behind THE LINE", x.agree(0, 6, 0), PlainAsk.NONE);
        CHECK.due("ahead of THE LINE", x.agree(0, -1, 0), PlainAsk.NONE);
        CHECK.due("far behind THE LINE", x.agree(0, Integer.MAX_VALUE, 0), PlainAsk.NONE);
    }

    private static void taking() {
        PlainAsk x = desk();
        x.mean(1, 3, 0, 1, 4);
        x.mean(1, 3, 0, 2, 5);
        x.mean(1, 5, 0, 0, 6);
        x.mean(2, 5, 0, 0, 50);
        x.mean(2, 5, 0, 0, 50);
        Desks.say(x, 0, 1);
        CHECK.due("take(3)", x.take(3), PlainAsk.NONE);
        CHECK.due("take(-1)", x.take(-1), PlainAsk.NONE);
        CHECK.due("COST after refusals", x.cost(1, 0), 4);
        CHECK.due("take(1)", x.take(1), 3);
        int[] due = {5, 4, 7};
        for (int m = 0; m < 3; m++) {
            CHECK.due("taken: cost(1, " + m + ")", x.cost(1, m), due[m]);
        }
        CHECK.due("a TABLE for nothing stays", x.cost(0, 0), 0);
        CHECK.due("a WORD not on THE LINE stays", x.cost(2, 0), 50);
        CHECK.due("the taken one is first now", x.reading(0, 11), 1);
        CHECK.due("and its ANSWER", x.answer(0), 2);
        CHECK.due("by 0 one answer", x.answers(0), 1);
        CHECK.due("by 1 two", x.answers(1), 2);
    }

    /** Of a WORD that stands twice only the first place is learnt, once. */
    private static void takingTheFirstPlace() {
        PlainAsk x = desk();
        x.mean(1, 3, 0, 1, 10);
        x.mean(1, 5, 0, 0, 11);
        Desks.say(x, 0, 1, 1);
        CHECK.due("READING 1, place 1", x.reading(1, 11), 0);
        CHECK.due("READING 1, place 2", x.reading(1, 12), 1);
        CHECK.due("take(1)", x.take(1), 2);
        CHECK.due("cost(1, 0)", x.cost(1, 0), 9);
        CHECK.due("cost(1, 1)", x.cost(1, 1), 12);
        CHECK.due("take(2)", x.take(2), 2);
        CHECK.due("cost(1, 0)", x.cost(1, 0), 10);
        CHECK.due("cost(1, 1)", x.cost(1, 1), 11);
        Desks.say(x, 1, 1, 0);
        CHECK.due("READING 1, place 0", x.reading(1, 10), 0);
        CHECK.due("take(1) from place 0 on", x.take(1), 2);
        CHECK.due("cost(1, 0)", x.cost(1, 0), 9);
        CHECK.due("cost(1, 1)", x.cost(1, 1), 12);
    }

    private static void takingAtTheEnds() {
        PlainAsk x = desk();
        x.mean(1, 3, 0, 1, 0);
        x.mean(1, 3, 0, 2, 99);
        x.mean(1, 3, 0, 3, 98);
        Desks.say(x, 0, 1);
        CHECK.due("0 and 99 stay", x.take(0), 1);
        CHECK.due("98 rose", x.cost(1, 2), 99);
        CHECK.due("99 stayed", x.cost(1, 1), 99);
        CHECK.due("0 stayed", x.cost(1, 0), 0);
        CHECK.due("nothing becomes other", x.take(0), 0);
        CHECK.due("the dearest", x.take(2), 2);
        CHECK.due("it fell", x.cost(1, 2), 98);
        CHECK.due("the first rose", x.cost(1, 0), 1);
        Desks.say(x, 1);
        CHECK.due("take without a FROM", x.take(0), PlainAsk.NONE);
        x.mean(2, 1, 0, 0, 7);
        x.mean(3, 4, 200, 0, 7);
        Desks.say(x, 0, 2, 3, Desks.num(1));
        CHECK.due("NUMBERS cost nothing", x.take(0), 2);
        CHECK.due("the COLUMN", x.cost(2, 0), 6);
        CHECK.due("the THAN", x.cost(3, 0), 6);
    }

    private static void whyNothing() {
        PlainAsk x = new PlainAsk();
        x.table(3);
        x.table(1);
        Desks.fill(x, 0, new int[][] {{1, 1, 0}, {2, 0, 1}});
        for (int c = 0; c < 3; c++) {
            for (int v = 0; v < 2; v++) {
                x.mean(2 * c + v, 3, c, v, 0);
            }
        }
        x.mean(10, 0, 0, 0, 0);
        x.mean(11, 0, 100, 0, 0);
        x.mean(12, 3, 100, 4, 0);
        why(x, "found", 0, 10, 3);
        why(x, "one TEST in the way", 1, 10, 0);
        why(x, "the second of two", 2, 10, 3, 0);
        why(x, "the first of two", 1, 10, 0, 3);
        why(x, "least mask of like ones: column 1 or column 2", 1, 10, 2, 4);
        why(x, "the lesser mask also when a later ROW has it", 1, 10, 3, 5);
        why(x, "both", 3, 10, 0, 0);
        why(x, "fewest, not least", 8, 10, 2, 2, 2, 4);
        why(x, "all seven", 127, 10, 0, 0, 0, 0, 0, 0, 0);
        why(x, "without ROWS", -5, 11);
        why(x, "without ROWS, with a TEST", -5, 11, 12);
        Desks.say(x, 10, 0);
        CHECK.due("why(1)", x.why(1), PlainAsk.NONE);
        CHECK.due("why(-1)", x.why(-1), PlainAsk.NONE);
        CHECK.due("why(far)", x.why(Integer.MAX_VALUE), PlainAsk.NONE);
    }

    private static void why(PlainAsk x, String name, int due, int... line) {
        Desks.say(x, line);
        CHECK.due("why, " + name, x.why(0), due);
    }
}
