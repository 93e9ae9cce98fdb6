import java.util.ArrayList;
import java.util.Collections;
import java.util.List;
import java.util.Random;

/**
 * Runs of random calls: each answer must be that of the Oracle. In one run of
 * three the calls are wild; in the other ones a desk is set up first and the
 * LINES are made of phrases, so that there are READINGS.
 */
public final class OracleTest {
    private static final int RUNS = 1500;
    private static final int CALLS = 490;
    private static final int RICH_WORDS = 25;

    private final Check check = new Check("OracleTest");
    private final Random dice;
    private final int run;
    private final boolean rich;
    private final PlainAsk x = new PlainAsk();
    private final Oracle o = new Oracle();
    private int calls = 0;

    private OracleTest(int run) {
        this.run = run;
        this.dice = new Random(run);
        this.rich = run % 3 != 0;
    }

    public static void main(String[] args) {
        Check whole = new Check("OracleTest");
        for (int run = 0; run < RUNS && whole.wrong() < 5; run++) {
            whole.due("run " + run + ", wrong answers", new OracleTest(run).play(), 0);
        }
        whole.end();
    }

    private int play() {
        if (rich) {
            setUp();
        }
        while (calls < 70) {
            build();
        }
        while (calls < CALLS && check.wrong() == 0) {
            int kind = dice.nextInt(20);
            if (kind < 2) {
                say();
            } else if (kind < 4) {
                build();
            } else {
                ask();
            }
        }
        return check.wrong();
    }

    // ---- numbers

    /** Mostly 0 .. n - 1, now and then beside it. */
    private int upTo(int n) {
        switch (dice.nextInt(rich ? 200 : 40)) {
            case 0: return -1;
            case 1: return n;
            case 2: return dice.nextBoolean() ? Integer.MAX_VALUE : Integer.MIN_VALUE;
            default: return dice.nextInt(Math.max(n, 1));
        }
    }

    private int someValue() {
        switch (dice.nextInt(12)) {
            case 0: return -1000;
            case 1: return dice.nextInt(2003) - 1001;
            case 2: return dice.nextBoolean() ? 999 : -999;
            default: return dice.nextInt(5) - 1;
        }
    }

    private int someWord() {
        return upTo(rich ? RICH_WORDS : run % 2 == 0 ? 8 : 14);
    }

    private int someCost() {
        return dice.nextInt(8) == 0 ? upTo(100) : dice.nextInt(3);
    }

    // ---- a desk with something to ask

    private void setUp() {
        int many = 2 + dice.nextInt(3);
        for (int t = 0; t < many; t++) {
            doTable(2 + dice.nextInt(3));
            int rows = t == 0 ? 6 + dice.nextInt(5) : 2 + dice.nextInt(3);
            for (int r = 0; r < rows; r++) {
                doRow(t);
                for (int c = 0; c < (t == 0 ? 4 : 2); c++) {
                    doPut(t, r, c, run % 4 == 1 && c == 0 ? 1 << r : someValue());
                }
            }
        }
        for (int t = 1; t < many; t++) {
            doLink(0, t, t);
        }
        doLink(1, 1, 0);
        for (int w = 0; w < RICH_WORDS; w++) {
            firstMeaning(w);
        }
        for (int n = 0; n < 30; n++) {
            mean(someWord());
        }
    }

    /** By its number a WORD is first a TABLE, COLUMN, DOING, VALUE, THAN, or NOISE. */
    private void firstMeaning(int w) {
        int t = dice.nextInt(3) > 0 ? 0 : dice.nextInt(o.tables.size());
        if (w < 4) {
            doMean(w, 0, 100 * t, 0, someCost());
        } else if (w < 10) {
            doMean(w, 1, 100 * t + dice.nextInt(2), 0, someCost());
        } else if (w < 14) {
            doMean(w, 2, 100 * (w - 10), 0, someCost());
        } else if (w < 20) {
            doMean(w, 3, 100 * t + dice.nextInt(2), dice.nextInt(5) - 1, someCost());
        } else if (w < 23) {
            doMean(w, 4, 100 * (w - 20), 0, someCost());
        } else {
            doMean(w, 5, 0, 0, someCost());
        }
    }

    // ---- calls that change the desk

    private void build() {
        int kind = dice.nextInt(30);
        int t = upTo(o.tables.size());
        boolean there = t >= 0 && t < o.tables.size();
        if (kind < 2) {
            doTable(dice.nextInt(5) == 0 ? upTo(6) : 1 + dice.nextInt(4));
        } else if (kind < 7) {
            doRow(t);
        } else if (kind < 15) {
            doPut(t, upTo(there ? o.tables.get(t).rows.size() : 20), upTo(there ? o.tables.get(t).columns : 4),
                someValue());
        } else if (kind < 18) {
            doLink(upTo(4), upTo(4), dice.nextInt(6) - 1);
        } else if (kind < 29) {
            mean(someWord());
        } else {
            int w = someWord();
            due("forget", x.forget(w), o.forget(w), w);
        }
    }

    private void mean(int w) {
        int sort = dice.nextInt(3) == 0 ? 3 : upTo(6);
        int a = sort == 2 ? upTo(4) : sort == 4 ? upTo(3) : sort == 5 ? 0 : upTo(o.tables.size());
        int b = sort == 1 || sort == 3 || dice.nextInt(30) == 0 ? upTo(3) : 0;
        int c = sort == 3 || dice.nextInt(30) == 0 ? someValue() : 0;
        doMean(w, sort, 100 * a + b, c, someCost());
    }

    private void doTable(int columns) {
        due("table", x.table(columns), o.table(columns), columns);
    }

    private void doRow(int t) {
        due("row", x.row(t), o.row(t), t);
    }

    private void doPut(int t, int r, int c, int v) {
        due("put", x.put(t, r, c, v), o.put(t, r, c, v), t, r, c, v);
        due("value", x.value(t, r, c), o.value(t, r, c), t, r, c);
    }

    private void doLink(int t, int c, int to) {
        due("link", x.link(t, c, to), o.link(t, c, to), t, c, to);
    }

    private void doMean(int w, int sort, int where, int c, int cost) {
        due("mean", x.mean(w, sort, where, c, cost), o.mean(w, sort, where, c, cost), w, sort, where, c, cost);
    }

    // ---- the line

    private void say() {
        if (dice.nextInt(8) > 0) {
            due("clear", x.clear(), o.clear());
        }
        if (rich && dice.nextInt(6) > 0) {
            sayPhrases();
        } else {
            sayAnything();
        }
    }

    private void sayPhrases() {
        List<int[]> phrases = new ArrayList<>();
        boolean wanted = dice.nextInt(3) > 0;
        if (wanted) {
            phrases.add(new int[] {4 + dice.nextInt(6)});
            phrases.add(new int[] {11 + dice.nextInt(3)});
        }
        if (!wanted || dice.nextInt(3) == 0) {
            phrases.add(new int[] {dice.nextInt(4)});
        }
        int tests = dice.nextInt(6);
        for (int k = 0; k < tests; k++) {
            phrases.add(dice.nextInt(3) > 0 ? new int[] {14 + dice.nextInt(6)}
                : new int[] {4 + dice.nextInt(6), 20 + dice.nextInt(3), 1000 + dice.nextInt(5) - 1});
        }
        if (dice.nextInt(3) == 0) {
            phrases.add(new int[] {23 + dice.nextInt(2)});
        }
        Collections.shuffle(phrases, dice);
        for (int[] phrase : phrases) {
            for (int token : phrase) {
                doToken(token);
            }
        }
    }

    private void sayAnything() {
        int tokens = 1 + dice.nextInt(run % 2 == 0 ? 9 : 5);
        for (int n = 0; n < tokens; n++) {
            boolean behindThan = o.line.size() > 0 && mayBeThan(o.line.get(o.line.size() - 1));
            boolean numeric = behindThan ? dice.nextInt(4) > 0 : dice.nextInt(40) == 0;
            doToken(numeric ? 1000 + someValue() : someWord());
        }
    }

    private boolean mayBeThan(int[] token) {
        return token[0] == 0 && o.words.get(token[1]).stream().anyMatch(m -> m.sort == 4);
    }

    /** From 100 on a NUMBER with 1000 added, else a WORD. */
    private void doToken(int token) {
        if (token >= 100 && token < 3000) {
            due("number", x.number(token - 1000), o.number(token - 1000), token - 1000);
        } else {
            due("word", x.word(token), o.word(token), token);
        }
    }

    // ---- questions

    private void ask() {
        int n = o.readings();
        int i = upTo(dice.nextBoolean() ? n : Math.min(n, 3));
        int d = dice.nextInt(10) == 0 ? upTo(1001) : dice.nextInt(3) == 0 ? dice.nextInt(1001) : dice.nextInt(8);
        switch (dice.nextInt(13)) {
            case 0:
                due("readings", x.readings(), n);
                break;
            case 1: case 2: case 3:
                int what = dice.nextInt(5) == 0 ? upTo(20)
                    : dice.nextBoolean() ? dice.nextInt(6) : 10 + dice.nextInt(8);
                due("reading", x.reading(i, what), o.reading(i, what), i, what);
                break;
            case 4:
                askTest(i);
                break;
            case 5:
                due("answer", x.answer(i), o.answer(i), i);
                break;
            case 6:
                int nth = upTo(3);
                due("found", x.found(i, nth), o.found(i, nth), i, nth);
                break;
            case 7:
                due("answers", x.answers(d), o.answers(d), d);
                break;
            case 8:
                due("back", x.back(d), o.back(d), d);
                break;
            case 9:
                int place = upTo(o.line.size());
                int m = upTo(3);
                due("agree", x.agree(d, place, m), o.agree(d, place, m), d, place, m);
                break;
            case 10:
                askTake(i);
                break;
            case 11:
                due("why", x.why(i), o.why(i), i);
                break;
            default:
                int of = upTo(3);
                due("count", x.count(of), o.count(of), of);
                break;
        }
    }

    private void askTest(int i) {
        int k = upTo(3);
        int part = upTo(4);
        due("test", x.test(i, k, part), o.test(i, k, part), i, k, part);
    }

    private void askTake(int i) {
        due("take", x.take(i), o.take(i), i);
        int w = someWord();
        int m = upTo(3);
        due("cost", x.cost(w, m), o.cost(w, m), w, m);
    }

    private void due(String name, int got, int want, int... with) {
        calls++;
        StringBuilder call = new StringBuilder("run " + run + ": " + name + "(");
        for (int i = 0; i < with.length; i++) {
            call.append(i == 0 ? "" : ", ").append(with[i]);
        }
        check.due(call.append(")").toString(), got, want);
    }
}
