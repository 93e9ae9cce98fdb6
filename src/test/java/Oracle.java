import java.util.ArrayList;
import java.util.Arrays;
import java.util.HashSet;
import java.util.List;
import java.util.Set;

/** The document word by word, without a thought for speed: what PlainAsk is compared with. */
final class Oracle {
    static final int NONE = -1, FULL = -2, NOTHING = -1000000, NO_VALUE = -2000000;

    static final class Table {
        int columns;
        int[] link = {-1, -1, -1, -1};
        List<Integer[]> rows = new ArrayList<>();
    }

    static final class Meaning {
        int sort, a, b, c, cost;
    }

    static final class Test {
        int table, column, than, number;
    }

    static final class Reading {
        int[] meanings;
        int cost, doing, from, wanted;
        List<Test> tests = new ArrayList<>();
    }

    final List<Table> tables = new ArrayList<>();
    final List<List<Meaning>> words = new ArrayList<>();
    /** {0, w} or {1, v}. */
    final List<int[]> line = new ArrayList<>();

    Oracle() {
        for (int w = 0; w < 40; w++) {
            words.add(new ArrayList<>());
        }
    }

    int table(int columns) {
        if (columns < 1 || columns > 4) return NONE;
        if (tables.size() == 4) return FULL;
        Table t = new Table();
        t.columns = columns;
        tables.add(t);
        return tables.size() - 1;
    }

    boolean noTable(int t) {
        return t < 0 || t >= tables.size();
    }

    boolean noColumn(int t, int c) {
        return noTable(t) || c < 0 || c >= tables.get(t).columns;
    }

    int row(int t) {
        if (noTable(t)) return NONE;
        if (tables.get(t).rows.size() == 20) return FULL;
        tables.get(t).rows.add(new Integer[4]);
        return tables.get(t).rows.size() - 1;
    }

    boolean noCell(int t, int r, int c) {
        return noColumn(t, c) || r < 0 || r >= tables.get(t).rows.size();
    }

    int put(int t, int r, int c, int v) {
        if (noCell(t, r, c) || v < -1000 || v > 999) return NONE;
        tables.get(t).rows.get(r)[c] = v == -1000 ? null : (Integer) v;
        return 1;
    }

    int value(int t, int r, int c) {
        if (noCell(t, r, c)) return NO_VALUE;
        Integer v = tables.get(t).rows.get(r)[c];
        return v == null ? NOTHING : v;
    }

    int link(int t, int c, int to) {
        if (noColumn(t, c) || to == t || (to != -1 && noTable(to))) return -9;
        int was = tables.get(t).link[c];
        tables.get(t).link[c] = to;
        return was;
    }

    int mean(int w, int sort, int where, int c, int cost) {
        if (w < 0 || w > 39 || sort < 0 || sort > 5 || where < 0 || cost < 0 || cost > 99) return NONE;
        Meaning m = new Meaning();
        m.sort = sort;
        m.a = where / 100;
        m.b = where - 100 * m.a;
        m.c = c;
        m.cost = cost;
        if (sort != 1 && sort != 3 && m.b != 0) return NONE;
        if (sort != 3 && c != 0) return NONE;
        if (sort == 5 && m.a != 0) return NONE;
        if (sort == 0 && noTable(m.a)) return NONE;
        if ((sort == 1 || sort == 3) && noColumn(m.a, m.b)) return NONE;
        if (sort == 2 && m.a > 3) return NONE;
        if (sort == 4 && m.a > 2) return NONE;
        if (c < -999 || c > 999) return NONE;
        if (words.get(w).size() == 3) return FULL;
        words.get(w).add(m);
        return words.get(w).size() - 1;
    }

    int cost(int w, int m) {
        if (w < 0 || w > 39 || m < 0 || m >= words.get(w).size()) return NONE;
        return words.get(w).get(m).cost;
    }

    int forget(int w) {
        if (w < 0 || w > 39) return NONE;
        int had = words.get(w).size();
        words.get(w).clear();
        return had;
    }

    int word(int w) {
        if (w < 0 || w > 39) return NONE;
        if (line.size() == 8) return FULL;
        line.add(new int[] {0, w});
        return line.size();
    }

    int number(int v) {
        if (v < -999 || v > 999) return NONE;
        if (line.size() == 8) return FULL;
        line.add(new int[] {1, v});
        return line.size();
    }

    int clear() {
        int had = line.size();
        line.clear();
        return had;
    }

    boolean isNumber(int p) {
        return p >= 0 && p < line.size() && line.get(p)[0] == 1;
    }

    /** The MEANING at a place, null where none can be. */
    Meaning at(int[] chosen, int p) {
        if (p < 0 || p >= line.size() || isNumber(p)) return null;
        return words.get(line.get(p)[1]).get(chosen[p]);
    }

    boolean is(int[] chosen, int p, int sort) {
        Meaning m = at(chosen, p);
        return m != null && m.sort == sort;
    }

    List<Reading> all() {
        List<Reading> out = new ArrayList<>();
        int n = line.size();
        int[] most = new int[n];
        long combinations = 1;
        for (int p = 0; p < n; p++) {
            most[p] = isNumber(p) ? 1 : words.get(line.get(p)[1]).size();
            combinations *= most[p];
        }
        for (long combination = 0; combination < combinations; combination++) {
            int[] chosen = new int[n];
            long rest = combination;
            for (int p = 0; p < n; p++) {
                chosen[p] = (int) (rest % most[p]);
                rest /= most[p];
            }
            Reading r = made(chosen);
            if (r != null) out.add(r);
        }
        out.sort((x, y) -> x.cost != y.cost ? Integer.compare(x.cost, y.cost)
            : Arrays.compare(x.meanings, y.meanings));
        return out;
    }

    Reading made(int[] chosen) {
        Reading r = new Reading();
        r.meanings = chosen.clone();
        List<Meaning> columns = new ArrayList<>(), told = new ArrayList<>(), doings = new ArrayList<>();
        for (int p = 0; p < line.size(); p++) {
            if (isNumber(p)) {
                if (!is(chosen, p - 1, 4)) return null;
                r.meanings[p] = -1;
                continue;
            }
            Meaning m = at(chosen, p);
            r.cost += m.cost;
            if (m.sort == 4 && (!is(chosen, p - 1, 1) || !isNumber(p + 1))) return null;
            if (m.sort == 0) told.add(m);
            if (m.sort == 1 && !is(chosen, p + 1, 4)) columns.add(m);
            if (m.sort == 2) doings.add(m);
            if (m.sort == 3) r.tests.add(test(m, 2, m.c));
            if (m.sort == 4) r.tests.add(test(at(chosen, p - 1), m.a, line.get(p + 1)[1]));
        }
        if (columns.size() > 1 || told.size() > 1 || doings.size() > 1) return null;
        r.doing = doings.isEmpty() ? 0 : doings.get(0).a;
        r.wanted = columns.isEmpty() ? -1 : columns.get(0).b;
        if (told.isEmpty() && columns.isEmpty()) return null;
        r.from = told.isEmpty() ? columns.get(0).a : told.get(0).a;
        if (!columns.isEmpty() && columns.get(0).a != r.from) return null;
        if (columns.isEmpty() && r.doing != 0 || !columns.isEmpty() && r.doing == 0) return null;
        for (Test t : r.tests) {
            if (t.table != r.from && linking(r.from, t.table) < 0) return null;
        }
        return r;
    }

    static Test test(Meaning column, int than, int number) {
        Test t = new Test();
        t.table = column.a;
        t.column = column.b;
        t.than = than;
        t.number = number;
        return t;
    }

    int linking(int from, int to) {
        for (int c = 0; c < tables.get(from).columns; c++) {
            if (tables.get(from).link[c] == to) return c;
        }
        return -1;
    }

    boolean holds(int from, Integer[] cells, Test t) {
        Integer v;
        if (t.table == from) {
            v = cells[t.column];
        } else {
            Integer there = cells[linking(from, t.table)];
            if (there == null || there < 0 || there >= tables.get(t.table).rows.size()) return false;
            v = tables.get(t.table).rows.get(there)[t.column];
        }
        if (v == null) return false;
        return t.than == 0 ? v > t.number : t.than == 1 ? v < t.number : v == t.number;
    }

    List<Integer> foundBy(Reading r, int without) {
        List<Integer> out = new ArrayList<>();
        List<Integer[]> rows = tables.get(r.from).rows;
        for (int row = 0; row < rows.size(); row++) {
            boolean all = true;
            for (int k = 0; k < r.tests.size(); k++) {
                if ((without & 1 << k) == 0 && !holds(r.from, rows.get(row), r.tests.get(k))) all = false;
            }
            if (all) out.add(row);
        }
        return out;
    }

    int answerOf(Reading r) {
        List<Integer> found = foundBy(r, 0);
        if (r.doing == 0) return found.size();
        List<Integer> values = new ArrayList<>();
        for (int row : found) {
            Integer v = tables.get(r.from).rows.get(row)[r.wanted];
            if (v != null) values.add(v);
        }
        if (r.doing == 1) return values.stream().mapToInt(v -> v).sum();
        if (r.doing == 2) return values.stream().mapToInt(v -> v).max().orElse(NOTHING);
        return values.stream().mapToInt(v -> v).min().orElse(NOTHING);
    }

    Reading get(int i) {
        List<Reading> all = all();
        return i < 0 || i >= all.size() ? null : all.get(i);
    }

    int readings() {
        return all().size();
    }

    int reading(int i, int what) {
        Reading r = get(i);
        if (r == null) return -9;
        if (what == 0) return r.cost;
        if (what == 1) return r.doing;
        if (what == 2) return r.from;
        if (what == 3) return r.wanted;
        if (what == 4) return r.tests.size();
        if (what == 5) return foundBy(r, 0).size();
        for (int p = 0; p < line.size(); p++) {
            if (what == 10 + p) return r.meanings[p];
        }
        return -9;
    }

    int test(int i, int k, int what) {
        Reading r = get(i);
        if (r == null || k < 0 || k >= r.tests.size() || what < 0 || what > 3) return NO_VALUE;
        Test t = r.tests.get(k);
        return new int[] {t.table, t.column, t.than, t.number}[what];
    }

    int answer(int i) {
        Reading r = get(i);
        return r == null ? NO_VALUE : answerOf(r);
    }

    int found(int i, int k) {
        Reading r = get(i);
        if (r == null) return NONE;
        List<Integer> found = foundBy(r, 0);
        return k < 0 || k >= found.size() ? NONE : found.get(k);
    }

    List<Reading> near(int d) {
        List<Reading> out = new ArrayList<>();
        List<Reading> all = all();
        for (Reading r : all) {
            if (r.cost - all.get(0).cost <= d) out.add(r);
        }
        return out;
    }

    int answers(int d) {
        if (d < 0 || d > 1000) return NONE;
        Set<Integer> unlike = new HashSet<>();
        for (Reading r : near(d)) unlike.add(answerOf(r));
        return unlike.size();
    }

    int back(int d) {
        if (d < 0 || d > 1000) return NONE;
        int best = -5;
        int least = Integer.MAX_VALUE;
        List<Reading> near = near(d);
        List<Integer> answers = new ArrayList<>();
        for (Reading r : near) answers.add(answerOf(r));
        for (int p = 0; p < line.size(); p++) {
            Set<Integer> meanings = new HashSet<>();
            for (Reading r : near) meanings.add(r.meanings[p]);
            if (meanings.size() < 2) continue;
            int worst = 0;
            for (int m : meanings) {
                Set<Integer> unlike = new HashSet<>();
                for (int i = 0; i < near.size(); i++) {
                    if (near.get(i).meanings[p] == m) unlike.add(answers.get(i));
                }
                worst = Math.max(worst, unlike.size());
            }
            if (worst < least) {
                least = worst;
                best = p;
            }
        }
        return best;
    }

    int agree(int d, int place, int meaning) {
        if (d < 0 || d > 1000 || place < 0 || place >= line.size() || isNumber(place)) return NONE;
        int n = 0;
        for (Reading r : near(d)) {
            if (r.meanings[place] == meaning) n++;
        }
        return n;
    }

    int take(int i) {
        Reading r = get(i);
        if (r == null) return NONE;
        int other = 0;
        Set<Integer> seen = new HashSet<>();
        for (int p = 0; p < line.size(); p++) {
            if (isNumber(p) || !seen.add(line.get(p)[1])) continue;
            List<Meaning> meanings = words.get(line.get(p)[1]);
            for (int m = 0; m < meanings.size(); m++) {
                int was = meanings.get(m).cost;
                int is = m == r.meanings[p] ? was - 1 : was + 1;
                if (is < 0 || is > 99) continue;
                meanings.get(m).cost = is;
                other++;
            }
        }
        return other;
    }

    int why(int i) {
        Reading r = get(i);
        if (r == null) return NONE;
        for (int size = 0; size <= r.tests.size(); size++) {
            for (int mask = 0; mask < 1 << r.tests.size(); mask++) {
                if (Integer.bitCount(mask) == size && !foundBy(r, mask).isEmpty()) return mask;
            }
        }
        return -5;
    }

    int count(int what) {
        if (what == 0) return tables.size();
        if (what == 1) return line.size();
        if (what == 2) return words.stream().mapToInt(List::size).sum();
        return NONE;
    }
}
