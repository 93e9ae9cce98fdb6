import java.util.Arrays;

/**
 * A desk that answers questions in plain words from tables. The words in
 * capitals in the comments are those of the document.
 *
 * All memory is made with the object: no call makes an array or an object.
 */
public final class PlainAsk {
    public static final int NONE = -1, FULL = -2, STATE = -3, NOTHING = -1000000, NO_VALUE = -2000000;

    private static final int MOST_TABLES = 4;
    private static final int MOST_COLUMNS = 4;
    private static final int MOST_ROWS = 20;
    private static final int MOST_WORDS = 40;
    private static final int MOST_MEANINGS = 3;
    private static final int MOST_TOKENS = 8;
    private static final int MOST_READINGS = 6561; // MOST_MEANINGS to the power of MOST_TOKENS
    private static final int MOST_VALUE = 999;
    private static final int MOST_COST = 99;
    private static final int MOST_DISTANCE = 1000;

    /** The v by which put takes a value away. */
    private static final int TAKE_AWAY = -1000;
    /** What link and reading answer for NONE: -1 has another sense there. */
    private static final int NOT_THERE = -9;
    /** What back answers without such a place, and why without such TESTS. */
    private static final int NO_WAY = -5;

    private static final int SORT_TABLE = 0, SORT_COLUMN = 1, SORT_DOING = 2, SORT_VALUE = 3, SORT_THAN = 4,
            SORT_NOISE = 5;
    private static final int DO_COUNT = 0, DO_SUM = 1, DO_MOST = 2, DO_LEAST = 3;
    private static final int THAN_ABOVE = 0, THAN_BELOW = 1, THAN_IS = 2;

    private final Tables tables;
    private final Words words;
    private final Line line;
    private final Readings list;
    private final Finder finder;
    private final Doubts doubts;

    public PlainAsk() {
        tables = new Tables();
        words = new Words();
        line = new Line();
        list = new Readings(tables, words, line);
        finder = new Finder(tables);
        doubts = new Doubts(line, list, finder);
    }

    // ---- tables

    public int table(int columns) {
        if (columns < 1 || columns > MOST_COLUMNS) {
            return NONE;
        }
        if (tables.size() >= MOST_TABLES) {
            return FULL;
        }
        return tables.addTable(columns);
    }

    public int row(int table) {
        if (!tables.hasTable(table)) {
            return NONE;
        }
        if (tables.rowsOf(table) >= MOST_ROWS) {
            return FULL;
        }
        rowsChanged();
        return tables.addRow(table);
    }

    public int put(int table, int row, int column, int v) {
        if (!tables.hasCell(table, row, column) || !(v == TAKE_AWAY || isValue(v))) {
            return NONE;
        }
        rowsChanged();
        tables.setCell(table, row, column, v == TAKE_AWAY ? NOTHING : v);
        return 1;
    }

    public int value(int table, int row, int column) {
        return tables.hasCell(table, row, column) ? tables.cell(table, row, column) : NO_VALUE;
    }

    public int link(int table, int column, int to) {
        boolean known = to == -1 || tables.hasTable(to);
        if (!tables.hasColumn(table, column) || !known || to == table) {
            return NOT_THERE;
        }
        questionChanged();
        return tables.changeLink(table, column, to);
    }

    // ---- words

    public int mean(int word, int sort, int where, int c, int cost) {
        if (!isWord(word) || where < 0 || cost < 0 || cost > MOST_COST) {
            return NONE;
        }
        if (!isMeaning(sort, where / 100, where % 100, c)) {
            return NONE;
        }
        if (words.meaningsOf(word) >= MOST_MEANINGS) {
            return FULL;
        }
        questionChanged();
        return words.addMeaning(word, sort, where / 100, where % 100, c, cost);
    }

    public int cost(int word, int meaning) {
        if (!isWord(word) || meaning < 0 || meaning >= words.meaningsOf(word)) {
            return NONE;
        }
        return words.costAt(words.spotOf(word, meaning));
    }

    public int forget(int word) {
        if (!isWord(word)) {
            return NONE;
        }
        questionChanged();
        return words.dropMeanings(word);
    }

    // ---- the line

    public int word(int w) {
        if (!isWord(w)) {
            return NONE;
        }
        if (line.size() >= MOST_TOKENS) {
            return FULL;
        }
        questionChanged();
        return line.addWord(w);
    }

    public int number(int v) {
        if (!isValue(v)) {
            return NONE;
        }
        if (line.size() >= MOST_TOKENS) {
            return FULL;
        }
        questionChanged();
        return line.addNumber(v);
    }

    public int clear() {
        questionChanged();
        return line.empty();
    }

    // ---- readings

    public int readings() {
        return list.size();
    }

    public int reading(int i, int what) {
        if (!list.has(i)) {
            return NOT_THERE;
        }
        if (what >= 10) {
            return line.has(what - 10) ? list.meaningAt(i, what - 10) : NOT_THERE;
        }
        Form form = list.formOf(i);
        switch (what) {
            case 0: return list.costAt(i);
            case 1: return form.doing();
            case 2: return form.from();
            case 3: return form.wanted();
            case 4: return form.tests();
            case 5: return Integer.bitCount(finder.rowsFound(form));
            default: return NOT_THERE;
        }
    }

    public int test(int i, int k, int what) {
        if (!list.has(i)) {
            return NO_VALUE;
        }
        Form form = list.formOf(i);
        if (k < 0 || k >= form.tests()) {
            return NO_VALUE;
        }
        switch (what) {
            case 0: return form.tableOf(k);
            case 1: return form.columnOf(k);
            case 2: return form.thanOf(k);
            case 3: return form.numberOf(k);
            default: return NO_VALUE;
        }
    }

    public int answer(int i) {
        return list.has(i) ? finder.answerOf(list.formOf(i)) : NO_VALUE;
    }

    public int found(int i, int k) {
        if (!list.has(i) || k < 0) {
            return NONE;
        }
        int rows = finder.rowsFound(list.formOf(i));
        int ahead = k;
        for (int row = 0; row < MOST_ROWS; row++) {
            if (!holdsBit(rows, row)) {
                continue;
            }
            if (ahead == 0) {
                return row;
            }
            ahead--;
        }
        return NONE;
    }

    public int answers(int d) {
        if (!isDistance(d)) {
            return NONE;
        }
        int near = list.near(d);
        doubts.learnAnswers(near);
        return doubts.unlikeAnswers(near);
    }

    public int back(int d) {
        if (!isDistance(d)) {
            return NONE;
        }
        int near = list.near(d);
        doubts.learnAnswers(near);
        return doubts.placeToAsk(near);
    }

    public int agree(int d, int place, int meaning) {
        if (!isDistance(d) || !line.has(place) || line.isNumber(place)) {
            return NONE;
        }
        int near = list.near(d);
        int agreed = 0;
        for (int i = 0; i < near; i++) {
            if (list.meaningAt(i, place) == meaning) {
                agreed++;
            }
        }
        return agreed;
    }

    public int take(int i) {
        if (!list.has(i)) {
            return NONE;
        }
        int changed = 0;
        for (int place = 0; place < line.size(); place++) {
            if (line.isFirstOfWord(place)) {
                changed += words.learn(line.tokenAt(place), list.meaningAt(i, place));
            }
        }
        questionChanged();
        return changed;
    }

    public int why(int i) {
        return list.has(i) ? finder.testsInTheWay(list.formOf(i)) : NONE;
    }

    public int count(int what) {
        switch (what) {
            case 0: return tables.size();
            case 1: return line.size();
            case 2: return words.size();
            default: return NONE;
        }
    }

    // ---- what the calls share

    /** The READINGS stay as they are when only ROWS or values change; what they find does not. */
    private void rowsChanged() {
        finder.spoil();
        doubts.spoil();
    }

    private void questionChanged() {
        list.spoil();
        rowsChanged();
    }

    /** Whether a SORT has these numbers: those that it does not have are 0. */
    private boolean isMeaning(int sort, int a, int b, int c) {
        switch (sort) {
            case SORT_TABLE: return tables.hasTable(a) && b == 0 && c == 0;
            case SORT_COLUMN: return tables.hasColumn(a, b) && c == 0;
            case SORT_DOING: return a <= DO_LEAST && b == 0 && c == 0;
            case SORT_VALUE: return tables.hasColumn(a, b) && isValue(c);
            case SORT_THAN: return a <= THAN_IS && b == 0 && c == 0;
            case SORT_NOISE: return a == 0 && b == 0 && c == 0;
            default: return false;
        }
    }

    private static boolean isWord(int w) {
        return w >= 0 && w < MOST_WORDS;
    }

    private static boolean isValue(int v) {
        return v >= -MOST_VALUE && v <= MOST_VALUE;
    }

    private static boolean isDistance(int d) {
        return d >= 0 && d <= MOST_DISTANCE;
    }

    private static boolean holdsBit(int mask, int bit) {
        return ((mask >> bit) & 1) != 0;
    }

    /** The TABLES with their ROWS and LINKS. A missing value is held as NOTHING. */
    private static final class Tables {
        private int size;
        private final int[] columns = new int[MOST_TABLES];
        private final int[] rows = new int[MOST_TABLES];
        private final int[] links = new int[MOST_TABLES * MOST_COLUMNS];
        private final int[] cells = new int[MOST_TABLES * MOST_ROWS * MOST_COLUMNS];

        Tables() {
            Arrays.fill(links, -1);
            Arrays.fill(cells, NOTHING);
        }

        int size() {
            return size;
        }

        int rowsOf(int table) {
            return rows[table];
        }

        boolean hasTable(int table) {
            return table >= 0 && table < size;
        }

        boolean hasColumn(int table, int column) {
            return hasTable(table) && column >= 0 && column < columns[table];
        }

        boolean hasCell(int table, int row, int column) {
            return hasColumn(table, column) && row >= 0 && row < rows[table];
        }

        int addTable(int width) {
            columns[size] = width;
            size++;
            return size - 1;
        }

        int addRow(int table) {
            rows[table]++;
            return rows[table] - 1;
        }

        int cell(int table, int row, int column) {
            return cells[(table * MOST_ROWS + row) * MOST_COLUMNS + column];
        }

        void setCell(int table, int row, int column, int v) {
            cells[(table * MOST_ROWS + row) * MOST_COLUMNS + column] = v;
        }

        int changeLink(int table, int column, int to) {
            int before = links[table * MOST_COLUMNS + column];
            links[table * MOST_COLUMNS + column] = to;
            return before;
        }

        /** The first COLUMN of one TABLE that LINKS to another one, or -1. */
        int linkingColumn(int table, int to) {
            for (int column = 0; column < columns[table]; column++) {
                if (links[table * MOST_COLUMNS + column] == to) {
                    return column;
                }
            }
            return -1;
        }

        /** Whether a value of a linking COLUMN, which may be missing, leads to a ROW of a TABLE. */
        boolean hasRow(int table, int there) {
            return there >= 0 && there < rows[table];
        }
    }

    /** The WORDS with their MEANINGS and COSTS. */
    private static final class Words {
        private int size;
        private final int[] meanings = new int[MOST_WORDS];
        private final int[] sorts = new int[MOST_WORDS * MOST_MEANINGS];
        private final int[] as = new int[MOST_WORDS * MOST_MEANINGS];
        private final int[] bs = new int[MOST_WORDS * MOST_MEANINGS];
        private final int[] cs = new int[MOST_WORDS * MOST_MEANINGS];
        private final int[] costs = new int[MOST_WORDS * MOST_MEANINGS];

        int size() {
            return size;
        }

        int meaningsOf(int w) {
            return meanings[w];
        }

        /** Where a MEANING stands in the rows of sorts, numbers and COSTS. */
        int spotOf(int w, int meaning) {
            return w * MOST_MEANINGS + meaning;
        }

        int sortAt(int spot) {
            return sorts[spot];
        }

        int aAt(int spot) {
            return as[spot];
        }

        int bAt(int spot) {
            return bs[spot];
        }

        int cAt(int spot) {
            return cs[spot];
        }

        int costAt(int spot) {
            return costs[spot];
        }

        int addMeaning(int w, int sort, int a, int b, int c, int price) {
            int spot = spotOf(w, meanings[w]);
            sorts[spot] = sort;
            as[spot] = a;
            bs[spot] = b;
            cs[spot] = c;
            costs[spot] = price;
            meanings[w]++;
            size++;
            return meanings[w] - 1;
        }

        int dropMeanings(int w) {
            int dropped = meanings[w];
            meanings[w] = 0;
            size -= dropped;
            return dropped;
        }

        /** Makes one MEANING of a WORD cheaper and the other ones dearer: how many COSTS became other. */
        int learn(int w, int taken) {
            int changed = 0;
            for (int meaning = 0; meaning < meanings[w]; meaning++) {
                int spot = spotOf(w, meaning);
                int before = costs[spot];
                costs[spot] = meaning == taken ? Math.max(before - 1, 0) : Math.min(before + 1, MOST_COST);
                if (costs[spot] != before) {
                    changed++;
                }
            }
            return changed;
        }
    }

    /** THE LINE: at each place a WORD or a NUMBER. */
    private static final class Line {
        private int size;
        private final boolean[] numeric = new boolean[MOST_TOKENS];
        private final int[] tokens = new int[MOST_TOKENS];

        int size() {
            return size;
        }

        boolean has(int place) {
            return place >= 0 && place < size;
        }

        boolean isNumber(int place) {
            return place >= 0 && place < size && numeric[place];
        }

        boolean isWordAt(int place) {
            return place >= 0 && place < size && !numeric[place];
        }

        /** The WORD or the NUMBER at a place. */
        int tokenAt(int place) {
            return tokens[place];
        }

        int addWord(int w) {
            return add(w, false);
        }

        int addNumber(int v) {
            return add(v, true);
        }

        int empty() {
            int had = size;
            size = 0;
            return had;
        }

        boolean isFirstOfWord(int place) {
            if (!isWordAt(place)) {
                return false;
            }
            for (int earlier = 0; earlier < place; earlier++) {
                if (isWordAt(earlier) && tokens[earlier] == tokens[place]) {
                    return false;
                }
            }
            return true;
        }

        private int add(int token, boolean isNumeric) {
            tokens[size] = token;
            numeric[size] = isNumeric;
            size++;
            return size;
        }
    }

    /** The FORM of one READING. One object is filled anew for each READING, so that no call makes any. */
    private static final class Form {
        private int doings, doing;
        private int tablesTold, from;
        private int columnsWanted, wanted, wantedTable;
        private int tests;
        private final int[] testTables = new int[MOST_TOKENS];
        private final int[] testColumns = new int[MOST_TOKENS];
        private final int[] testThans = new int[MOST_TOKENS];
        private final int[] testNumbers = new int[MOST_TOKENS];
        private final int[] testOrigins = new int[MOST_TOKENS];

        int doing() {
            return doing;
        }

        int from() {
            return from;
        }

        int wanted() {
            return wanted;
        }

        int tests() {
            return tests;
        }

        int tableOf(int k) {
            return testTables[k];
        }

        int columnOf(int k) {
            return testColumns[k];
        }

        int thanOf(int k) {
            return testThans[k];
        }

        int numberOf(int k) {
            return testNumbers[k];
        }

        /** Where the TEST comes from: like ones on the same LINE are the same TEST. */
        int originOf(int k) {
            return testOrigins[k];
        }

        void start() {
            doings = 0;
            doing = DO_COUNT;
            tablesTold = 0;
            from = -1;
            columnsWanted = 0;
            wanted = -1;
            wantedTable = -1;
            tests = 0;
        }

        void tellTable(int table) {
            tablesTold++;
            from = table;
        }

        void tellDoing(int what) {
            doings++;
            doing = what;
        }

        void tellWanted(int table, int column) {
            columnsWanted++;
            wantedTable = table;
            wanted = column;
        }

        void tellTest(int origin, int table, int column, int than, int against) {
            testOrigins[tests] = origin;
            testTables[tests] = table;
            testColumns[tests] = column;
            testThans[tests] = than;
            testNumbers[tests] = against;
            tests++;
        }

        void end() {
            if (tablesTold == 0) {
                from = wantedTable;
            }
        }

        /** Whether what has been told makes a READING. */
        boolean stands(Tables tables) {
            if (doings > 1 || tablesTold > 1 || columnsWanted > 1 || from < 0) {
                return false;
            }
            if ((columnsWanted == 1) != (doing != DO_COUNT)) {
                return false;
            }
            if (columnsWanted == 1 && wantedTable != from) {
                return false;
            }
            return testsReach(tables);
        }

        private boolean testsReach(Tables tables) {
            for (int k = 0; k < tests; k++) {
                if (testTables[k] != from && tables.linkingColumn(from, testTables[k]) < 0) {
                    return false;
                }
            }
            return true;
        }
    }

    /**
     * The READINGS of THE LINE in their order, made when they are first asked
     * for after a change. Each is held as one key, its COST above its MEANINGS,
     * two bits a place and the first place highest: keys in order are READINGS
     * in order.
     */
    private static final class Readings {
        private static final int LAST_PLACE = MOST_TOKENS - 1;
        private static final int MEANING_BITS = 2;
        private static final int MEANING_MASK = 3;
        private static final int COST_SHIFT = MOST_TOKENS * MEANING_BITS;

        private final Tables tables;
        private final Words words;
        private final Line line;
        private final Form form = new Form();
        private final int[] starts = new int[MOST_TOKENS * MOST_COST + 2];
        /** Of the MEANINGS of one READING; -1 for a NUMBER and behind THE LINE. */
        private final int[] spots = new int[MOST_TOKENS + 1];
        private final int[] sortsThere = new int[MOST_TOKENS + 1];
        private int[] keys = new int[MOST_READINGS];
        private int[] spare = new int[MOST_READINGS];
        private int size;
        private boolean fresh;

        Readings(Tables tables, Words words, Line line) {
            this.tables = tables;
            this.words = words;
            this.line = line;
        }

        void spoil() {
            fresh = false;
        }

        int size() {
            refresh();
            return size;
        }

        boolean has(int i) {
            refresh();
            return i >= 0 && i < size;
        }

        int costAt(int i) {
            return keys[i] >> COST_SHIFT;
        }

        /** The MEANING at a place, -1 for a NUMBER. */
        int meaningAt(int i, int place) {
            return line.isNumber(place) ? -1 : meaningIn(keys[i], place);
        }

        Form formOf(int i) {
            fillForm(keys[i]);
            return form;
        }

        /** How many READINGS are NEAR: they are the first ones. */
        int near(int d) {
            refresh();
            int near = 0;
            while (near < size && costAt(near) <= costAt(0) + d) {
                near++;
            }
            return near;
        }

        private void refresh() {
            if (fresh) {
                return;
            }
            fresh = true;
            size = keepStanding(growKeys());
            sortByCost();
        }

        /** Every choice of MEANINGS that neighbours on THE LINE allow, the lesser MEANING first. */
        private int growKeys() {
            keys[0] = 0;
            int held = 1;
            for (int place = 0; place < line.size(); place++) {
                held = line.isNumber(place) ? passNumber(place, held) : growByWord(place, held);
            }
            return held;
        }

        private int passNumber(int place, int held) {
            int kept = 0;
            for (int i = 0; i < held; i++) {
                if (hasSort(keys[i], place - 1, SORT_THAN)) {
                    keys[kept] = keys[i];
                    kept++;
                }
            }
            return kept;
        }

        private int growByWord(int place, int held) {
            int w = line.tokenAt(place);
            boolean numberAhead = line.isNumber(place + 1);
            int grown = 0;
            for (int i = 0; i < held; i++) {
                boolean thanMayStand = numberAhead && hasSort(keys[i], place - 1, SORT_COLUMN);
                for (int meaning = 0; meaning < words.meaningsOf(w) && grown < MOST_READINGS; meaning++) {
                    int spot = words.spotOf(w, meaning);
                    if (thanMayStand || words.sortAt(spot) != SORT_THAN) {
                        spare[grown] = keys[i] + keyPart(place, meaning, words.costAt(spot));
                        grown++;
                    }
                }
            }
            swap();
            return grown;
        }

        private boolean hasSort(int key, int place, int sort) {
            return line.isWordAt(place)
                    && words.sortAt(words.spotOf(line.tokenAt(place), meaningIn(key, place))) == sort;
        }

        private int keepStanding(int held) {
            int kept = 0;
            for (int i = 0; i < held; i++) {
                fillForm(keys[i]);
                if (form.stands(tables)) {
                    keys[kept] = keys[i];
                    kept++;
                }
            }
            return kept;
        }

        /** Leaves like COSTS in the order in which they grew. */
        private void sortByCost() {
            Arrays.fill(starts, 0);
            for (int i = 0; i < size; i++) {
                starts[costAt(i) + 1]++;
            }
            for (int price = 1; price < starts.length; price++) {
                starts[price] += starts[price - 1];
            }
            for (int i = 0; i < size; i++) {
                int price = costAt(i);
                spare[starts[price]] = keys[i];
                starts[price]++;
            }
            swap();
        }

        private void swap() {
            int[] held = keys;
            keys = spare;
            spare = held;
        }

        private void fillForm(int key) {
            for (int place = 0; place <= MOST_TOKENS; place++) {
                boolean isWord = line.isWordAt(place);
                spots[place] = isWord ? words.spotOf(line.tokenAt(place), meaningIn(key, place)) : -1;
                sortsThere[place] = isWord ? words.sortAt(spots[place]) : -1;
            }
            form.start();
            for (int place = 0; place < MOST_TOKENS; place++) {
                if (spots[place] >= 0) {
                    tellMeaning(place, spots[place]);
                }
            }
            form.end();
        }

        private void tellMeaning(int place, int spot) {
            int a = words.aAt(spot);
            int b = words.bAt(spot);
            switch (sortsThere[place]) {
                case SORT_TABLE:
                    form.tellTable(a);
                    break;
                case SORT_COLUMN:
                    if (sortsThere[place + 1] != SORT_THAN) {
                        form.tellWanted(a, b);
                    }
                    break;
                case SORT_DOING:
                    form.tellDoing(a);
                    break;
                case SORT_VALUE:
                    form.tellTest(originOf(place, spot, 0), a, b, THAN_IS, words.cAt(spot));
                    break;
                case SORT_THAN:
                    int columnSpot = place > 0 ? spots[place - 1] : -1;
                    if (columnSpot >= 0 && line.isNumber(place + 1)) {
                        form.tellTest(originOf(place, spot, columnSpot), words.aAt(columnSpot),
                                words.bAt(columnSpot), a, line.tokenAt(place + 1));
                    }
                    break;
                default:
                    break;
            }
        }

        private static int originOf(int place, int spot, int columnSpot) {
            return (place * MOST_MEANINGS + spot % MOST_MEANINGS) * MOST_MEANINGS + columnSpot % MOST_MEANINGS;
        }

        private static int keyPart(int place, int meaning, int price) {
            return (price << COST_SHIFT) + (meaning << (LAST_PLACE - place) * MEANING_BITS);
        }

        private static int meaningIn(int key, int place) {
            return (key >> (LAST_PLACE - place) * MEANING_BITS) & MEANING_MASK;
        }
    }

    /** What a FORM finds. Sets of ROWS are masks: bit r is ROW r. */
    private static final class Finder {
        private static final int ORIGINS = MOST_TOKENS * MOST_MEANINGS * MOST_MEANINGS;
        private static final int UNKNOWN = -1;

        private final Tables tables;
        /** Thousands of READINGS share few TESTS: the ROWS for which each holds are sought once for each FROM. */
        private final int[] holding = new int[ORIGINS * MOST_TABLES];

        Finder(Tables tables) {
            this.tables = tables;
            Arrays.fill(holding, UNKNOWN);
        }

        void spoil() {
            Arrays.fill(holding, UNKNOWN);
        }

        int rowsFound(Form form) {
            int rows = (1 << tables.rowsOf(form.from())) - 1;
            for (int k = 0; k < form.tests(); k++) {
                rows &= rowsHolding(form, k);
            }
            return rows;
        }

        int answerOf(Form form) {
            int rows = rowsFound(form);
            if (form.doing() == DO_COUNT) {
                return Integer.bitCount(rows);
            }
            int result = form.doing() == DO_SUM ? 0 : NOTHING;
            for (int row = 0; row < MOST_ROWS; row++) {
                int v = holdsBit(rows, row) ? tables.cell(form.from(), row, form.wanted()) : NOTHING;
                if (v != NOTHING) {
                    result = joined(form.doing(), result, v);
                }
            }
            return result;
        }

        /**
         * WHY. Without a set of TESTS a ROW is found just if the set has all
         * that fail for that ROW: so the fewest are the failing ones of some ROW.
         */
        int testsInTheWay(Form form) {
            int best = NO_WAY;
            for (int row = 0; row < tables.rowsOf(form.from()); row++) {
                int failing = testsFailing(form, row);
                if (best == NO_WAY || isLesserSet(failing, best)) {
                    best = failing;
                }
            }
            return best;
        }

        private int testsFailing(Form form, int row) {
            int failing = 0;
            for (int k = 0; k < form.tests(); k++) {
                if (!holdsBit(rowsHolding(form, k), row)) {
                    failing |= 1 << k;
                }
            }
            return failing;
        }

        private int rowsHolding(Form form, int k) {
            int at = form.originOf(k) * MOST_TABLES + form.from();
            if (holding[at] == UNKNOWN) {
                holding[at] = seekRows(form, k);
            }
            return holding[at];
        }

        private int seekRows(Form form, int k) {
            int from = form.from();
            int table = form.tableOf(k);
            int column = form.columnOf(k);
            int ownColumn = table == from ? column : tables.linkingColumn(from, table);
            int rows = 0;
            for (int row = 0; ownColumn >= 0 && row < tables.rowsOf(from); row++) {
                int v = tables.cell(from, row, ownColumn);
                if (table != from) {
                    v = tables.hasRow(table, v) ? tables.cell(table, v, column) : NOTHING;
                }
                if (v != NOTHING && holds(v, form.thanOf(k), form.numberOf(k))) {
                    rows |= 1 << row;
                }
            }
            return rows;
        }

        private static boolean holds(int v, int than, int against) {
            switch (than) {
                case THAN_ABOVE: return v > against;
                case THAN_BELOW: return v < against;
                default: return v == against;
            }
        }

        private static int joined(int doing, int soFar, int v) {
            if (doing == DO_SUM) {
                return soFar + v;
            }
            if (soFar == NOTHING) {
                return v;
            }
            return doing == DO_MOST ? Math.max(soFar, v) : Math.min(soFar, v);
        }

        private static boolean isLesserSet(int set, int than) {
            int fewer = Integer.compare(Integer.bitCount(set), Integer.bitCount(than));
            return fewer < 0 || fewer == 0 && set < than;
        }
    }

    /** How far the ANSWERS of NEAR READINGS part, and what parts them. near: how many READINGS, from 0 on. */
    private static final class Doubts {
        private final Line line;
        private final Readings list;
        private final Finder finder;
        private final NumberSet unlike = new NumberSet();
        private final int[] known = new int[MOST_READINGS];
        private int knownSize;

        Doubts(Line line, Readings list, Finder finder) {
            this.line = line;
            this.list = list;
            this.finder = finder;
        }

        void spoil() {
            knownSize = 0;
        }

        /** Ahead of what is asked about the ANSWERS of these READINGS. */
        void learnAnswers(int near) {
            while (knownSize < near) {
                known[knownSize] = finder.answerOf(list.formOf(knownSize));
                knownSize++;
            }
        }

        int unlikeAnswers(int near) {
            unlike.empty();
            for (int i = 0; i < near; i++) {
                unlike.add(known[i]);
            }
            return unlike.size();
        }

        /** BACK. Also without DOUBT: the document asks for unlike MEANINGS only. */
        int placeToAsk(int near) {
            int best = NO_WAY;
            int least = MOST_READINGS + 1;
            for (int place = 0; place < line.size(); place++) {
                int worst = parts(place, near) ? worstAt(place, near) : least;
                if (worst < least) {
                    least = worst;
                    best = place;
                }
            }
            return best;
        }

        private boolean parts(int place, int near) {
            for (int i = 1; i < near; i++) {
                if (list.meaningAt(i, place) != list.meaningAt(0, place)) {
                    return true;
                }
            }
            return false;
        }

        private int worstAt(int place, int near) {
            int worst = 0;
            for (int meaning = 0; meaning < MOST_MEANINGS; meaning++) {
                unlike.empty();
                for (int i = 0; i < near; i++) {
                    if (list.meaningAt(i, place) == meaning) {
                        unlike.add(known[i]);
                    }
                }
                worst = Math.max(worst, unlike.size());
            }
            return worst;
        }
    }

    /** A set of at most MOST_READINGS numbers, by hashing; emptied by a new round, as clearing it would cost more. */
    private static final class NumberSet {
        private static final int SLOT_BITS = 13;
        private static final int SLOTS = 1 << SLOT_BITS;
        private static final int SPREAD = 0x9E3779B1;

        private final int[] held = new int[SLOTS];
        private final int[] rounds = new int[SLOTS];
        private int round;
        private int size;

        int size() {
            return size;
        }

        void empty() {
            round++;
            size = 0;
        }

        void add(int n) {
            int slot = (n * SPREAD) >>> (32 - SLOT_BITS);
            for (int tried = 0; tried < SLOTS; tried++) {
                if (rounds[slot] != round) {
                    rounds[slot] = round;
                    held[slot] = n;
                    size++;
                    return;
                }
                if (held[slot] == n) {
                    return;
                }
                slot = (slot + 1) % SLOTS;
            }
        }
    }
}
