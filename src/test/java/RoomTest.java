import java.lang.management.ManagementFactory;
import java.lang.reflect.Array;
import java.lang.reflect.Field;
import java.lang.reflect.Modifier;
import java.util.ArrayDeque;
import java.util.Deque;
import java.util.IdentityHashMap;
import java.util.Map;

/** The dearest LINES: their answers, and that no call makes objects, as all calls of a run live in one room. */
public final class RoomTest {
    private static final Check CHECK = new Check("RoomTest");
    private static final int MOST_OBJECTS = 60;
    private static final int MOST_ELEMENTS = 50000;

    public static void main(String[] args) {
        roomOfOne();
        roomOfCalls();
        dearestCounts();
        dearestSums();
        CHECK.end();
    }

    private static void roomOfOne() {
        Map<Object, Boolean> seen = new IdentityHashMap<>();
        Deque<Object> open = new ArrayDeque<>();
        open.add(new PlainAsk());
        long elements = 0;
        while (!open.isEmpty()) {
            Object o = open.poll();
            if (seen.put(o, true) == null) {
                elements += o.getClass().isArray() ? Array.getLength(o) : fields(o, open);
            }
        }
        CHECK.holds("at most " + MOST_OBJECTS + " objects, not " + seen.size(), seen.size() <= MOST_OBJECTS);
        CHECK.holds("at most " + MOST_ELEMENTS + " elements, not " + elements, elements <= MOST_ELEMENTS);
    }

    private static int fields(Object o, Deque<Object> open) {
        int fields = 0;
        for (Field field : o.getClass().getDeclaredFields()) {
            if (Modifier.isStatic(field.getModifiers())) {
                continue;
            }
            fields++;
            if (!field.getType().isPrimitive()) {
                field.setAccessible(true);
                try {
                    open.add(field.get(o));
                } catch (IllegalAccessException e) {
                    CHECK.holds("a look at " + field, false);
                }
            }
        }
        return fields;
    }

    private static void roomOfCalls() {
        com.sun.management.ThreadMXBean meter =
            (com.sun.management.ThreadMXBean) ManagementFactory.getThreadMXBean();
        PlainAsk x = sums(new PlainAsk(), new Oracle());
        for (int n = 0; n < 20; n++) {
            askAll(x);
        }
        long before = meter.getThreadAllocatedBytes(Thread.currentThread().getId());
        for (int n = 0; n < 25; n++) {
            askAll(x);
        }
        long made = meter.getThreadAllocatedBytes(Thread.currentThread().getId()) - before;
        CHECK.holds("350 calls make nothing, not " + made + " bytes", made < 4096);
    }

    private static int askAll(PlainAsk x) {
        int sum = x.take(x.readings() - 1) + x.answers(1000) + x.back(1000) + x.agree(1000, 3, 1) + x.put(0, 0, 0, 3);
        sum += x.answers(500) + x.answer(6000) + x.found(0, 0) + x.why(0) + x.reading(0, 5) + x.test(0, 0, 0);
        return sum + x.mean(39, 5, 0, 0, 0) + x.forget(39) + x.link(0, 0, 9);
    }

    /** Eight WORDS, each a TABLE or two TESTS: 8 times 2 to the power of 7 READINGS. */
    private static void dearestCounts() {
        PlainAsk x = new PlainAsk();
        Oracle o = new Oracle();
        twenty(x, o);
        for (int w = 0; w < 8; w++) {
            mean(x, o, w, 0, 0, 0, 3);
            mean(x, o, w, 3, w % 4, 1, w);
            mean(x, o, w, 3, (w + 1) % 4, 2, 9 - w);
            x.word(w);
            o.word(w);
        }
        compare("counts", x, o, 1024);
    }

    private static void dearestSums() {
        PlainAsk x = new PlainAsk();
        Oracle o = new Oracle();
        sums(x, o);
        compare("sums", x, o, 6561);
        CHECK.holds("sums are unlike", x.answers(1000) > 200);
        CHECK.due("sums: take", x.take(6560), o.take(6560));
        compare("sums, one taken", x, o, 6561);
    }

    /** A DOING of three, a COLUMN of three, six WORDS with three TESTS each: all 6561 choices are READINGS. */
    private static PlainAsk sums(PlainAsk x, Oracle o) {
        twenty(x, o);
        for (int m = 0; m < 3; m++) {
            mean(x, o, 0, 2, 100 * (m + 1), 0, 99 - m);
            mean(x, o, 1, 1, m, 0, 97 + m);
        }
        for (int w = 2; w < 8; w++) {
            for (int m = 0; m < 3; m++) {
                mean(x, o, w, 3, 100 * (1 + (w + m) % 3) + (w + 2 * m) % 4, 1, 90 + (w * m) % 10);
            }
        }
        for (int w = 0; w < 8; w++) {
            x.word(w);
            o.word(w);
        }
        return x;
    }

    /** TABLE 0 with 20 ROWS; its last three COLUMNS lead to ROWS of TABLES 1 to 3, most of whose values are 1. */
    private static void twenty(PlainAsk x, Oracle o) {
        for (int t = 0; t < 4; t++) {
            x.table(4);
            o.table(4);
            for (int r = 0; r < 20; r++) {
                x.row(t);
                o.row(t);
                for (int c = 0; c < 4; c++) {
                    int v = t > 0 ? ((r * 7 + c * 5 + t * 3) % 6 == 0 ? 0 : 1)
                        : c == 0 ? (r * r * 37 + 11 * r) % 1999 - 999 : (r * (2 * c + 1) + c) % 20;
                    x.put(t, r, c, v);
                    o.put(t, r, c, v);
                }
            }
        }
        for (int t = 1; t < 4; t++) {
            x.link(0, t, t);
            o.link(0, t, t);
        }
    }

    private static void mean(PlainAsk x, Oracle o, int w, int sort, int where, int c, int cost) {
        CHECK.due("mean", x.mean(w, sort, where, c, cost), o.mean(w, sort, where, c, cost));
    }

    private static void compare(String name, PlainAsk x, Oracle o, int readings) {
        CHECK.due(name + ": readings()", x.readings(), readings);
        java.util.List<Oracle.Reading> all = o.all();
        CHECK.due(name + ": the Oracle's", all.size(), readings);
        for (int i = 0; i < readings; i++) {
            Oracle.Reading r = all.get(i);
            CHECK.due(name + ": COST of " + i, x.reading(i, 0), r.cost);
            CHECK.due(name + ": answer(" + i + ")", x.answer(i), o.answerOf(r));
            for (int p = 0; p < 8; p++) {
                CHECK.due(name + ": place " + p + " of " + i, x.reading(i, 10 + p), r.meanings[p]);
            }
        }
        for (int d : new int[] {0, 1, 5, 9, 20, 40, 1000}) {
            CHECK.due(name + ": answers(" + d + ")", x.answers(d), o.answers(d));
            CHECK.due(name + ": back(" + d + ")", x.back(d), o.back(d));
            CHECK.due(name + ": agree(" + d + ", 7, 1)", x.agree(d, 7, 1), o.agree(d, 7, 1));
        }
        for (int i = 0; i < readings; i += 100) {
            CHECK.due(name + ": why(" + i + ")", x.why(i), o.why(i));
        }
    }
}
