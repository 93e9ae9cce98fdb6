import java.util.HashSet;
import java.util.Set;

/** The edges of NEAR, DOUBT and BACK of part 3 and of promises 18 to 20. */
public final class EdgeDoubtsTest {
    private static final Check CHECK = new Check("EdgeDoubtsTest");
    private static final int NONE = PlainAsk.NONE, NO_PLACE = -5;
    private static final int TABLE = 0, COLUMN = 1, DOING = 2, VALUE = 3, THAN = 4, NOISE = 5;

    public static void main(String[] args) {
        distances();
        distancesWithoutReadings();
        costAtMostDMore();
        moreThanTheFirst();
        greatestGap();
        unlikeAnswers();
        nothingIsAnAnswer();
        manyUnlikeAnswers();
        veryManyUnlikeAnswers();
        withoutReadings();
        backAtEachPlace();
        backOfNearOnes();
        backNone();
        backNeverANumber();
        backTheFirstOfSeveral();
        backLeastAtWorst();
        backWithoutDoubt();
        agreePlaces();
        agreeMeanings();
        agreeAtANumber();
        CHECK.end();
    }

    /** TABLE 0 with the values 1, 2, 2, 3, 3, 3. WORD 0: TABLE; WORD 9: NOISE. */
    private static PlainAsk desk() {
        PlainAsk x = Desks.tables(1);
        Desks.fill(x, 0, new int[][] {{1}, {2}, {2}, {3}, {3}, {3}});
        x.mean(0, TABLE, 0, 0, 0);
        x.mean(9, NOISE, 0, 0, 0);
        return x;
    }

    /** A WORD of VALUES: of value v there are v ROWS, of 0 and 4 none. */
    private static void values(PlainAsk x, int w, int... vs) {
        x.forget(w);
        for (int v : vs) {
            x.mean(w, v < 0 ? NOISE : VALUE, 0, Math.max(v, 0), 0);
        }
    }

    /** "by d (0 .. 1000)", in each call that names d. */
    private static void distances() {
        PlainAsk x = desk();
        values(x, 1, 1, 2);
        Desks.ask(x, "0 1");
        for (int d : new int[] {0, 1, 999, 1000}) {
            CHECK.due("answers(" + d + ")", x.answers(d), 2);
            CHECK.due("back(" + d + ")", x.back(d), 1);
            CHECK.due("agree(" + d + ", 1, 1)", x.agree(d, 1, 1), 1);
        }
        for (int d : Ints.outside(0, 1000)) {
            CHECK.due("answers(" + d + ")", x.answers(d), NONE);
            CHECK.due("back(" + d + ")", x.back(d), NONE);
            CHECK.due("agree(" + d + ", 1, 1)", x.agree(d, 1, 1), NONE);
        }
    }

    /** Promises 18 to 20: "NONE" also where there is no READING. */
    private static void distancesWithoutReadings() {
        for (String line : new String[] {"", "1", "9", "0 0"}) {
            PlainAsk x = desk();
            Desks.ask(x, line);
            for (int d : Ints.outside(0, 1000)) {
                CHECK.due("no READING: answers(" + d + ")", x.answers(d), NONE);
                CHECK.due("no READING: back(" + d + ")", x.back(d), NONE);
                CHECK.due("no READING: agree(" + d + ", 0, 0)", x.agree(d, 0, 0), NONE);
            }
        }
    }

    /** "NEAR by d: READINGS that cost at most d more than the first." */
    private static void costAtMostDMore() {
        for (int base : new int[] {0, 1, 50}) {
            for (int gap = 0; base + gap <= 99; gap += base == 50 ? 49 : 33) {
                PlainAsk x = desk();
                x.mean(1, VALUE, 0, 1, base);
                x.mean(1, VALUE, 0, 2, base + gap);
                Desks.ask(x, "0 1");
                CHECK.due("gap " + gap + ": answers at it", x.answers(gap), 2);
                CHECK.due("gap " + gap + ": answers above it", x.answers(gap + 1), 2);
                CHECK.due("gap " + gap + ": answers just below", x.answers(gap - 1), gap == 0 ? NONE : 1);
                CHECK.due("gap " + gap + ": back at it", x.back(gap), 1);
                CHECK.due("gap " + gap + ": back just below", x.back(gap - 1), gap == 0 ? NONE : NO_PLACE);
                CHECK.due("gap " + gap + ": agree at it", x.agree(gap, 1, 1), 1);
                CHECK.due("gap " + gap + ": agree just below", x.agree(gap - 1, 1, 1), gap == 0 ? NONE : 0);
                CHECK.due("gap " + gap + ": the first agrees", x.agree(0, 1, 0), 1);
            }
        }
    }

    /** "more than the first": not than the one ahead, and not than 0. */
    private static void moreThanTheFirst() {
        PlainAsk x = desk();
        x.mean(1, VALUE, 0, 1, 40);
        x.mean(1, VALUE, 0, 2, 45);
        x.mean(1, VALUE, 0, 3, 50);
        Desks.ask(x, "0 1");
        int[][] due = {{0, 1}, {4, 1}, {5, 2}, {9, 2}, {10, 3}, {1000, 3}};
        for (int[] pair : due) {
            CHECK.due("answers(" + pair[0] + ")", x.answers(pair[0]), pair[1]);
        }
        PlainAsk y = desk();
        y.mean(1, TABLE, 0, 0, 0);
        y.mean(1, VALUE, 0, 1, 10);
        y.mean(1, VALUE, 0, 2, 11);
        Desks.ask(y, "0 1");
        CHECK.due("what is no READING is not the first", y.answers(0), 1);
        CHECK.due("nor NEAR", y.answers(1), 2);
    }

    /** The greatest gap, 8 times 99, lies within 1000. */
    private static void greatestGap() {
        PlainAsk x = Desks.tables(1, 1);
        x.mean(0, TABLE, 0, 0, 0);
        x.mean(0, TABLE, 100, 0, 99);
        for (int w = 1; w < 8; w++) {
            x.mean(w, NOISE, 0, 0, 0);
            x.mean(w, NOISE, 0, 0, 99);
        }
        Desks.ask(x, "0 1 2 3 4 5 6 7");
        CHECK.due("agree by 791", x.agree(791, 0, 1), 127);
        CHECK.due("agree by 792", x.agree(792, 0, 1), 128);
        CHECK.due("agree by 1000", x.agree(1000, 0, 1), 128);
        PlainAsk y = Desks.tables(3, 4, 4);
        Rows.eachFailsOne(y, 7);
        for (int w = 0; w < 7; w++) {
            y.forget(w);
            y.mean(w, NOISE, 0, 0, 0);
            y.mean(w, VALUE, Rows.whereOf(w), 1, 99);
        }
        Desks.ask(y, "10 0 1 2 3 4 5 6");
        for (int k = 1; k <= 7; k++) {
            CHECK.due("answers by " + (99 * k - 1), y.answers(99 * k - 1), k);
            CHECK.due("answers by " + 99 * k, y.answers(99 * k), k + 1);
        }
    }

    /** Promise 18: "How many unlike ANSWERS": like ones count once, of whatever READINGS. */
    private static void unlikeAnswers() {
        PlainAsk x = desk();
        values(x, 1, 0, 4);
        Desks.ask(x, "0 1");
        CHECK.due("0 and 0", x.answers(0), 1);
        values(x, 1, 0, 1);
        CHECK.due("0 and 1", x.answers(0), 2);
        values(x, 1, 1, 2, 3);
        CHECK.due("1, 2 and 3", x.answers(0), 3);
        values(x, 1, 2, 2, 2);
        CHECK.due("2, 2 and 2", x.answers(0), 1);
        x.put(0, 1, 0, 1);
        values(x, 1, 1, 2, 3);
        CHECK.due("2, 1 and 3", x.answers(0), 3);
        x.put(0, 3, 0, 2);
        CHECK.due("2, 2 and 2 of unlike ROWS", x.answers(0), 1);
        x.table(1);
        x.mean(2, TABLE, 0, 0, 0);
        x.mean(2, TABLE, 100, 0, 0);
        Desks.ask(x, "2");
        for (int rows = 0; rows < 8; rows++) {
            CHECK.due("six ROWS and " + rows, x.answers(0), rows == 6 ? 1 : 2);
            x.row(1);
        }
    }

    /** "MOST and LEAST of none NOTHING" is an ANSWER: like itself, unlike 0. */
    private static void nothingIsAnAnswer() {
        PlainAsk x = Desks.tables(1);
        x.mean(0, COLUMN, 0, 0, 0);
        x.mean(1, DOING, 200, 0, 0);
        x.mean(1, DOING, 300, 0, 0);
        Desks.ask(x, "0 1");
        CHECK.due("MOST and LEAST of none", x.answers(0), 1);
        x.mean(1, DOING, 100, 0, 0);
        CHECK.due("and SUM of none", x.answers(0), 2);
        x.put(0, x.row(0), 0, 0);
        CHECK.due("all three of one 0", x.answers(0), 1);
        x.put(0, x.row(0), 0, -1);
        CHECK.due("0, -1 and -1", x.answers(0), 2);
        x.put(0, x.row(0), 0, 5);
        CHECK.due("5, -1 and 4", x.answers(0), 3);
    }

    /** Promise 18, with very many unlike ones: the SUMS of all sets of six powers of 2, and their opposites. */
    private static void manyUnlikeAnswers() {
        PlainAsk x = Desks.tables(4, 4, 4);
        Rows.eachFailsOne(x, 6);
        for (int r = 0; r < 6; r++) {
            x.put(0, r, 2, 1 << r);
            x.put(0, r, 3, -(1 << r));
        }
        for (int w = 0; w < 6; w++) {
            x.mean(w, NOISE, 0, 0, 1);
        }
        x.mean(20, DOING, 100, 0, 0);
        x.mean(21, COLUMN, 2, 0, 0);
        x.mean(21, COLUMN, 3, 0, 0);
        Desks.ask(x, "20 21 0 1 2 3 4 5");
        CHECK.due("READINGS", x.readings(), 128);
        CHECK.due("unlike SUMS by 1000", x.answers(1000), 127);
        CHECK.due("unlike SUMS by 6", x.answers(6), 127);
        CHECK.due("unlike SUMS by 5", x.answers(5), 125);
        CHECK.due("unlike SUMS by 0", x.answers(0), 1);
        CHECK.due("the SUM by all TESTS", x.answer(0), 0);
        CHECK.due("the SUM without any", x.answer(126), 63);
        CHECK.due("its opposite", x.answer(127), -63);
    }

    /** Promise 18 with 729 READINGS: a WORD leaves out one ROW, another one, or none; SUMS tell which ROWS are left. */
    private static void veryManyUnlikeAnswers() {
        PlainAsk x = Desks.tables(4, 4, 4, 4);
        int[] values = {-991, 997, 983, -587, -811, 954, -929, 440, 733, -966, 901, -618};
        for (int r = 0; r < 12; r++) {
            for (int t = 0; t < 4; t++) {
                x.row(t);
                for (int c = 0; c < 4; c++) {
                    x.put(t, r, c, t == 0 ? c == 0 ? values[r] : r : r == 4 * (t - 1) + c ? 0 : 1);
                }
            }
            x.mean(r / 2, VALUE, 100 * (1 + r / 4) + r % 4, 1, 10);
        }
        for (int t = 1; t < 4; t++) {
            x.link(0, t, t);
        }
        for (int w = 0; w < 6; w++) {
            x.mean(w, NOISE, 0, 0, 10 + w);
        }
        x.mean(6, DOING, 100, 0, 0);
        x.mean(7, COLUMN, 0, 0, 0);
        Desks.ask(x, "6 7 0 1 2 3 4 5");
        for (int d = 0; d <= 16; d++) {
            CHECK.due("unlike SUMS by " + d, x.answers(d), unlikeSums(values, d).size());
        }
        CHECK.holds("there are many of them", unlikeSums(values, 15).size() > 600);
    }

    /** What is left when of each two values the one, the other or none is left out; none costs as told, 0 to 5. */
    private static Set<Integer> unlikeSums(int[] values, int d) {
        Set<Integer> sums = new HashSet<>();
        for (int choice = 0; choice < 729; choice++) {
            int cost = 0;
            int sum = 0;
            int rest = choice;
            for (int w = 0; w < 6; w++) {
                sum += (rest % 3 == 0 ? 0 : values[2 * w]) + (rest % 3 == 1 ? 0 : values[2 * w + 1]);
                cost += rest % 3 == 2 ? w : 0;
                rest /= 3;
            }
            if (cost <= d) {
                sums.add(sum);
            }
        }
        return sums;
    }

    /** Promise 18: "0: there is no READING"; promise 19: "-5: none". */
    private static void withoutReadings() {
        for (String line : new String[] {"", "1", "9", "0 0", "0 1", "0 #5", "#5"}) {
            PlainAsk x = desk();
            Desks.ask(x, line);
            for (int d : new int[] {0, 1, 1000}) {
                CHECK.due("'" + line + "': answers(" + d + ")", x.answers(d), 0);
                CHECK.due("'" + line + "': back(" + d + ")", x.back(d), NO_PLACE);
            }
        }
    }

    /** "BACK by d: of all places of THE LINE": from the first to the eighth. */
    private static void backAtEachPlace() {
        for (int place = 0; place < 8; place++) {
            PlainAsk x = desk();
            values(x, 1, 1, 2);
            for (int p = 0; p < 8; p++) {
                x.word(p == place ? 1 : p == (place + 1) % 8 ? 0 : 9);
            }
            CHECK.due("back at " + place, x.back(0), place);
            CHECK.due("agree there", x.agree(0, place, 1), 1);
        }
    }

    /** "at which two NEAR ones have unlike MEANINGS": what lies farther does not count, nor does what it answers. */
    private static void backOfNearOnes() {
        PlainAsk x = desk();
        x.mean(1, VALUE, 0, 1, 10);
        x.mean(1, VALUE, 0, 2, 20);
        x.mean(2, NOISE, 0, 0, 0);
        x.mean(2, VALUE, 0, 1, 5);
        Desks.ask(x, "0 1 2");
        CHECK.due("only the first is NEAR", x.back(4), NO_PLACE);
        CHECK.due("only place 2 parts", x.back(5), 2);
        CHECK.due("only place 2 parts", x.back(9), 2);
        // place 1: {1, 1} and {2}, place 2: {1, 2} and {1}
        CHECK.due("by 10 place 1 parts better", x.back(10), 1);
        // place 1: {1, 1} and {2, 0}, place 2: {1, 2} and {1, 0}
        CHECK.due("by 15 the first of both", x.back(15), 1);
        Desks.ask(x, "2 1 0");
        CHECK.due("ANSWERS of all", x.answers(1000), 3);
        CHECK.due("what lies just beyond does not make a place worse", x.back(14), 1);
        CHECK.due("what is just NEAR does", x.back(15), 0);
    }

    /** "none, if there is no such place"; promise 19: "-5: none". */
    private static void backNone() {
        PlainAsk x = desk();
        for (String line : new String[] {"0", "0 9", "9 9 9 0 9 9 9 9"}) {
            Desks.ask(x, line);
            CHECK.due("one READING: '" + line + "'", x.back(1000), NO_PLACE);
            CHECK.due("its answers", x.answers(1000), 1);
        }
        x.mean(1, VALUE, 0, 1, 0);
        x.mean(1, VALUE, 0, 2, 99);
        Desks.ask(x, "0 1");
        CHECK.due("two, but not NEAR", x.back(98), NO_PLACE);
        CHECK.due("two NEAR", x.back(99), 1);
    }

    /** A NUMBER has no MEANING, so its place is never the one. */
    private static void backNeverANumber() {
        PlainAsk x = desk();
        x.mean(1, COLUMN, 0, 0, 0);
        x.mean(2, THAN, 0, 0, 0);
        x.mean(2, THAN, 100, 0, 0);
        Desks.ask(x, "1 2 #2 0");
        CHECK.due("above and below part", x.back(0), 1);
        x.forget(2);
        x.mean(2, THAN, 0, 0, 0);
        CHECK.due("nothing parts", x.back(0), NO_PLACE);
    }

    /** "of several the first place". */
    private static void backTheFirstOfSeveral() {
        PlainAsk x = desk();
        values(x, 1, 1, 2);
        Desks.ask(x, "1 1 1 1 1 1 1 0");
        CHECK.due("of seven like places", x.back(0), 0);
        Desks.ask(x, "0 1 1 1 1 1 1 1");
        CHECK.due("of seven like places behind the TABLE", x.back(0), 1);
        Desks.ask(x, "9 9 9 9 9 0 1 1");
        CHECK.due("of the last two", x.back(0), 6);
    }

    /** "the one for which it is least how many unlike ANSWERS there are at worst among .. one and the same MEANING". */
    private static void backLeastAtWorst() {
        PlainAsk x = desk();
        values(x, 1, -1, 4);
        values(x, 2, 1, 2, 3);
        Desks.ask(x, "0 1 2");
        // place 1: NOISE {1, 2, 3}, 4 {0}; place 2: {1, 0}, {2, 0}, {3, 0}
        CHECK.due("two at worst ahead of three", x.back(0), 2);
        Desks.ask(x, "0 2 1");
        CHECK.due("and in the other order", x.back(0), 1);
        values(x, 1, -1, -1);
        // place 1: {1, 2, 3} twice; place 2: {1}, {2}, {3}
        Desks.ask(x, "1 0 2");
        CHECK.due("one at worst ahead of three", x.back(0), 2);
        values(x, 1, 1, 2);
        values(x, 2, 1, 2, -1);
        // the first: {1, 0, 1} and {0, 2, 2}; the second: {1, 0}, {0, 2} and {1, 2}
        Desks.ask(x, "1 2 0");
        CHECK.due("worst of each is two: the first", x.back(0), 0);
        Desks.ask(x, "2 1 0");
        CHECK.due("worst of each is two: the first", x.back(0), 0);
        values(x, 1, -1, 2);
        values(x, 2, -1, 1, 3);
        // the one: {6, 1, 3} and {2, 0, 0}; the other: {6, 2}, {1, 0} and {3, 0}
        Desks.ask(x, "1 2 0");
        CHECK.due("worst, not least, of a place", x.back(0), 1);
        values(x, 1, -1, -1, -1);
        values(x, 2, 1, 2, 1);
        // the one: three times {1, 2}; the other: {1}, {2} and {1}
        CHECK.due("like ANSWERS of unlike MEANINGS are counted for each", x.back(0), 1);
    }

    /** BACK names unlike MEANINGS, not unlike ANSWERS. */
    private static void backWithoutDoubt() {
        PlainAsk x = desk();
        values(x, 1, 2, 2);
        Desks.ask(x, "0 1");
        CHECK.due("no DOUBT", x.answers(0), 1);
        CHECK.due("but unlike MEANINGS", x.back(0), 1);
    }

    /** Promise 20: "NONE: no such place". */
    private static void agreePlaces() {
        for (int tokens = 0; tokens <= 8; tokens++) {
            PlainAsk x = desk();
            for (int n = 0; n < tokens; n++) {
                x.word(n == 0 ? 0 : 9);
            }
            for (int p = 0; p < tokens; p++) {
                CHECK.due(tokens + " TOKENS: agree at " + p, x.agree(0, p, 0), 1);
            }
            for (int p : Ints.outside(0, tokens - 1)) {
                CHECK.due(tokens + " TOKENS: agree at " + p, x.agree(0, p, 0), NONE);
            }
        }
        PlainAsk x = desk();
        Desks.ask(x, "1 9");
        CHECK.due("a WORD without MEANINGS: none of no READINGS", x.agree(0, 0, 0), 0);
        CHECK.due("the WORD beside it", x.agree(0, 1, 0), 0);
        CHECK.due("behind it", x.agree(0, 2, 0), NONE);
    }

    /** Promise 20: "How many of the READINGS NEAR by d have a MEANING": of one that the WORD does not have, none. */
    private static void agreeMeanings() {
        PlainAsk x = desk();
        values(x, 1, 1, 2, 3);
        Desks.ask(x, "0 1 1");
        for (int m = 0; m < 3; m++) {
            CHECK.due("MEANING " + m, x.agree(0, 1, m), 3);
        }
        CHECK.due("the only MEANING", x.agree(0, 0, 0), 9);
        CHECK.due("MEANING 1 of a WORD with one", x.agree(0, 0, 1), 0);
        for (int m : Ints.outside(0, 2)) {
            CHECK.due("MEANING " + m, x.agree(0, 1, m), 0);
            CHECK.due("MEANING " + m + " by 1000", x.agree(1000, 2, m), 0);
        }
    }

    /** Promise 20: "NONE: .. or a NUMBER stands there", with or without READINGS. */
    private static void agreeAtANumber() {
        PlainAsk x = desk();
        x.mean(1, COLUMN, 0, 0, 0);
        x.mean(2, THAN, 0, 0, 0);
        for (String line : new String[] {"0 1 2 #0", "0 9 9 #0", "0 9 9 #999"}) {
            Desks.ask(x, line);
            int many = x.readings();
            CHECK.due("'" + line + "' at 2", x.agree(0, 2, 0), many);
            for (int m : new int[] {0, -1, Ints.LEAST, Ints.GREATEST}) {
                CHECK.due("'" + line + "' at 3", x.agree(0, 3, m), NONE);
            }
        }
    }
}
