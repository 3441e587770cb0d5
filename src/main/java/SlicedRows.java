/**
 * A table of 64 lines and four columns whose numbers are kept as slices of bits.
 * The document (DOC.md) tells every call; this class is its whole face.
 */
public final class SlicedRows {
    public static final int NONE = -1, UNKNOWN = -101, OUTSIDE = -102, STATE = -103, FULL = -104;

    private static final int LINES = 64;
    private static final int COLUMNS = 4;
    private static final int LEAST_SIZE = 2;
    private static final int MOST_SIZE = 32;
    private static final int FIRST_SIZE = 16;
    private static final int MOST_BASES = 5;
    private static final int LEAST_BASE = 2;
    private static final int MOST_BASE = 32;
    private static final int MOST_ROOM = 64;
    private static final int MOST_WEIGHT = 9;
    private static final int EACH = 0;
    private static final int UP_TO = 1;
    private static final int FIRST_BASE_ASKED = 10;
    private static final int MOST_COMPARED = 99;
    private static final int MOST_SEARCHES = 30;
    private static final int MOST_QUESTIONS = 8;
    private static final int MOST_LETTERS = 60;
    private static final int MOST_LETTER = 126;
    private static final int MOST_CHANGES = 100;
    private static final int MOST_MARKS = 3;
    private static final int MOST_COUNTED = 8;
    private static final int GROUP = 7;
    private static final int LOW_31_BITS = 0x7fffffff;

    private final Table table;
    private final Column[] columns;
    private final Page page;
    private final Question[] questions;
    private final Search search;
    private final Arrangement arrangement;
    private int questionCount;
    private int bestDone;
    private int orderDone;

    public SlicedRows() {
        table = new Table();
        columns = new Column[COLUMNS];
        for (int column = 0; column < COLUMNS; column++) {
            columns[column] = new Column();
        }
        page = new Page();
        questions = new Question[MOST_QUESTIONS];
        search = new Search();
        arrangement = new Arrangement();
    }

    // ---- rows

    public int size(int column, int c) {
        if (!isColumn(column)) return UNKNOWN;
        if (c < LEAST_SIZE || c > MOST_SIZE) return OUTSIDE;
        if (table.rowCount() > 0 || table.markCount() > 0) return STATE;
        int was = columns[column].size;
        columns[column].resize(c);
        table.forgetChanges();
        return was;
    }

    public int row(int a, int b, int c, int d) {
        if (!columns[0].has(a) || !columns[1].has(b) || !columns[2].has(c) || !columns[3].has(d)) return OUTSIDE;
        int line = table.leastEmpty();
        if (line == NONE) return FULL;
        table.change(line, Table.packed(a, b, c, d));
        return line;
    }

    public int fill(int x, int n) {
        if (x < 0 || n < 1 || n > LINES) return OUTSIDE;
        int seed = x;
        int came = 0;
        for (int line = table.leastEmpty(); line != NONE && came < n; line = table.leastEmpty()) {
            int row = 0;
            for (int column = 0; column < COLUMNS; column++) {
                seed = (1103515245 * seed + 12345) & LOW_31_BITS;
                row = Table.altered(row, column, columns[column].numberFrom(seed >> 16));
            }
            table.change(line, row);
            came++;
        }
        return came;
    }

    public int set(int line, int column, int v) {
        if (!table.hasRow(line) || !isColumn(column)) return UNKNOWN;
        if (!columns[column].has(v)) return OUTSIDE;
        int was = table.number(line, column);
        table.changeNumber(line, column, v);
        return was;
    }

    public int drop(int line) {
        if (!table.hasRow(line)) return UNKNOWN;
        table.change(line, Table.EMPTY);
        return table.rowCount();
    }

    public int get(int line, int column) {
        if (line < 0 || line >= LINES || !isColumn(column)) return UNKNOWN;
        return table.number(line, column);
    }

    // ---- designs

    public int design(int column, int sort, long bases) {
        if (!isColumn(column)) return UNKNOWN;
        if (sort != EACH && sort != UP_TO) return OUTSIDE;
        return columns[column].redesign(sort, bases) ? columns[column].room : OUTSIDE;
    }

    public int about(int column, int what) {
        if (!isColumn(column)) return UNKNOWN;
        Column told = columns[column];
        switch (what) {
            case 0: return told.size;
            case 1: return told.sort;
            case 2: return told.baseCount;
            case 3: return told.room;
            case 4: return Long.bitCount(told.torn);
            default: break;
        }
        if (!asksForBase(what)) return OUTSIDE;
        return baseOrNone(told.bases, told.baseCount, what - FIRST_BASE_ASKED);
    }

    public long vector(int column, int v) {
        if (!isVector(column, v) || columns[column].isTorn(v)) return 0L;
        long bits = 0L;
        for (int line = 0; line < LINES; line++) {
            bits |= ((slicesAt(line, column) >>> v) & 1L) << line;
        }
        return bits;
    }

    public long reads(int column, int how, int c) {
        if (!isColumn(column) || c < 0 || c > MOST_COMPARED) return 0L;
        if (how == 0) return columns[column].readForEqual(c);
        return how == 1 ? columns[column].readForBelow(c) : 0L;
    }

    public int cost(int column, int e, int l) {
        if (!isColumn(column)) return UNKNOWN;
        if (!isWeight(e) || !isWeight(l)) return OUTSIDE;
        return columns[column].designCost(e, l);
    }

    public int best(int column, int room, int e, int l, int what) {
        if (!isColumn(column)) return UNKNOWN;
        if (room < 1 || room > MOST_ROOM || !isWeight(e) || !isWeight(l)) return OUTSIDE;
        if ((what < 0 || what > 3) && !asksForBase(what)) return OUTSIDE;
        if (bestDone >= MOST_SEARCHES) return STATE;
        bestDone++;
        search.seek(columns[column].size, room, e, l);
        if (!search.found) return NONE;
        switch (what) {
            case 0: return search.bestCost;
            case 1: return search.bestRoom;
            case 2: return search.bestSort;
            case 3: return search.bestCount;
            default: return baseOrNone(search.bestBases, search.bestCount, what - FIRST_BASE_ASKED);
        }
    }

    // ---- questions

    public int letters(long w) {
        int came = Page.lettersIn(w);
        if (came == NONE) return OUTSIDE;
        if (page.length + came > MOST_LETTERS) return FULL;
        page.append(w, came);
        return page.length;
    }

    public int blank() {
        int had = page.length;
        page.length = 0;
        return had;
    }

    public int good() {
        return page.goodLetters();
    }

    public int ask() {
        if (!page.isQuestion()) return STATE;
        if (questionCount >= MOST_QUESTIONS) return FULL;
        questions[questionCount] = new Question(page);
        questionCount++;
        page.length = 0;
        return questionCount - 1;
    }

    public long leaves(int question) {
        if (!isQuestion(question) || fails(question)) return 0L;
        return questions[question].leftLines(table);
    }

    public int asked(int question, int what) {
        if (!isQuestion(question)) return UNKNOWN;
        switch (what) {
            case 0: return vectorsRead(question);
            case 1: return questions[question].comparisons;
            case 2: return fails(question) ? 1 : 0;
            case 3: return fails(question) ? STATE : Long.bitCount(questions[question].leftLines(table));
            default: return OUTSIDE;
        }
    }

    public int sum(int question, int column) {
        if (!isQuestion(question) || !isColumn(column)) return UNKNOWN;
        if (fails(question)) return STATE;
        long left = questions[question].leftLines(table);
        int total = 0;
        for (int line = 0; line < LINES; line++) {
            if (((left >>> line) & 1L) != 0L) total += table.number(line, column);
        }
        return total;
    }

    public int least(int question, int column, int k) {
        if (!isQuestion(question) || !isColumn(column)) return UNKNOWN;
        if (fails(question)) return STATE;
        if (k < 0) return NONE;
        long left = questions[question].leftLines(table);
        int before = 0;
        for (int v = 0; v < columns[column].size; v++) {
            long those = left & table.linesWith(column, v);
            int many = Long.bitCount(those);
            if (k - before < many) return bitAt(those, k - before);
            before += many;
        }
        return NONE;
    }

    public int group(int question, int column, int v) {
        if (!isQuestion(question) || !isColumn(column)) return UNKNOWN;
        if (!columns[column].has(v)) return OUTSIDE;
        if (fails(question)) return STATE;
        return Long.bitCount(questions[question].leftLines(table) & table.linesWith(column, v));
    }

    // ---- torn

    public int tear(int column, int v) {
        if (!isVector(column, v)) return UNKNOWN;
        if (columns[column].isTorn(v)) return STATE;
        columns[column].torn |= 1L << v;
        return Long.bitCount(columns[column].torn);
    }

    public int mend(int column) {
        if (!isColumn(column)) return UNKNOWN;
        if (Long.bitCount(columns[column].torn) != 1) return STATE;
        int was = bitAt(columns[column].torn, 0);
        columns[column].torn = 0L;
        return was;
    }

    public long parity(int column) {
        if (!isColumn(column)) return 0L;
        long bits = 0L;
        for (int line = 0; line < LINES; line++) {
            bits |= (Long.bitCount(slicesAt(line, column)) & 1L) << line;
        }
        return bits;
    }

    // ---- squeezed

    public int words(int column, int v, int order, boolean turning) {
        if (!isVector(column, v)) return UNKNOWN;
        if (!Arrangement.isOrder(order)) return OUTSIDE;
        arrangement.arrange(table, order, turning);
        return squeezedWords(column, 1L << v);
    }

    public int all(int order, boolean turning) {
        return Arrangement.isOrder(order) ? tableWords(order, turning) : OUTSIDE;
    }

    public int placed(int order, boolean turning, int i) {
        if (!Arrangement.isOrder(order) || i < 0 || i >= LINES) return OUTSIDE;
        arrangement.arrange(table, order, turning);
        return arrangement.lines[i];
    }

    public int order(int what) {
        if (what < 0 || what > 2) return OUTSIDE;
        if (orderDone >= MOST_SEARCHES) return STATE;
        orderDone++;
        int fewest = NONE;
        int figure = 0;
        int turned = 0;
        // Of orders with as many words the first met is the best, so only fewer words replace it.
        for (int turn = 0; turn <= 1; turn++) {
            for (int order = 0; order <= Arrangement.MOST_ORDER; order++) {
                if (!Arrangement.isOrder(order)) continue;
                int words = tableWords(order, turn == 1);
                if (fewest == NONE || words < fewest) {
                    fewest = words;
                    figure = order;
                    turned = turn;
                }
            }
        }
        if (what == 0) return fewest;
        return what == 1 ? figure : turned;
    }

    // ---- changes

    public int undo() {
        return table.undoLatest() ? table.changesKept() : STATE;
    }

    public int mark() {
        return table.keepMark() ? table.markCount() : FULL;
    }

    public int back(int mark) {
        return table.returnTo(mark) ? table.rowCount() : UNKNOWN;
    }

    // ---- what is told

    public int count(int what) {
        switch (what) {
            case 0: return table.rowCount();
            case 1: return questionCount;
            case 2: return page.length;
            case 3: return table.changesKept();
            case 4: return table.markCount();
            case 5: return vectorsOfAll();
            case 6: return tornOfAll();
            case 7: return bestDone;
            case 8: return orderDone;
            default: return OUTSIDE;
        }
    }

    public long digest() {
        long h = 263L;
        for (int line = 0; line < LINES; line++) {
            for (int column = 0; column < COLUMNS; column++) h = 31L * h + get(line, column);
        }
        for (int column = 0; column < COLUMNS; column++) {
            for (int what = 0; what <= 4; what++) h = 31L * h + about(column, what);
            for (int i = 0; i < MOST_BASES; i++) h = 31L * h + about(column, FIRST_BASE_ASKED + i);
            h = 31L * h + parity(column);
        }
        for (int question = 0; question < questionCount; question++) {
            for (int what = 0; what <= 2; what++) h = 31L * h + asked(question, what);
        }
        for (int i = 0; i < page.length; i++) h = 31L * h + page.codes[i];
        for (int what = 0; what <= MOST_COUNTED; what++) h = 31L * h + count(what);
        return h;
    }

    // ---- what the calls share

    private static boolean isColumn(int column) {
        return column >= 0 && column < COLUMNS;
    }

    private boolean isVector(int column, int v) {
        return isColumn(column) && v >= 0 && v < columns[column].room;
    }

    private boolean isQuestion(int question) {
        return question >= 0 && question < questionCount && questions[question] != null;
    }

    private static boolean isWeight(int weight) {
        return weight >= 0 && weight <= MOST_WEIGHT;
    }

    private static boolean asksForBase(int what) {
        return what >= FIRST_BASE_ASKED && what < FIRST_BASE_ASKED + MOST_BASES;
    }

    private static int baseOrNone(int[] bases, int baseCount, int i) {
        return i >= 0 && i < baseCount && i < bases.length ? bases[i] : NONE;
    }

    /** The n least bits; Java shifts by the rest of n by 64, so 64 of them are told apart. */
    private static long lowBits(int n) {
        return n < LINES ? (1L << n) - 1L : -1L;
    }

    /** Where the k-th bit that is 1 stands (k from 0). */
    private static int bitAt(long bits, int k) {
        int passed = 0;
        for (int i = 0; i < LINES; i++) {
            if (((bits >>> i) & 1L) == 0L) continue;
            if (passed == k) return i;
            passed++;
        }
        return NONE;
    }

    /** In which vectors of a column a line's bit is 1: in none, if the line is empty. */
    private long slicesAt(int line, int column) {
        return columns[column].slicesOf(table.number(line, column));
    }

    private int vectorsRead(int question) {
        int read = 0;
        for (int column = 0; column < COLUMNS; column++) {
            read += Long.bitCount(questions[question].readOf(column, columns[column]));
        }
        return read;
    }

    private boolean fails(int question) {
        for (int column = 0; column < COLUMNS; column++) {
            if ((questions[question].readOf(column, columns[column]) & columns[column].torn) != 0L) return true;
        }
        return false;
    }

    private int vectorsOfAll() {
        int vectors = 0;
        for (int column = 0; column < COLUMNS; column++) vectors += columns[column].room;
        return vectors;
    }

    private int tornOfAll() {
        int torn = 0;
        for (int column = 0; column < COLUMNS; column++) torn += Long.bitCount(columns[column].torn);
        return torn;
    }

    private int tableWords(int order, boolean turning) {
        arrangement.arrange(table, order, turning);
        int words = 0;
        for (int column = 0; column < COLUMNS; column++) {
            words += squeezedWords(column, lowBits(columns[column].room));
        }
        return words;
    }

    /**
     * Words of those vectors of a column that a mask names, by the arrangement made last.
     * All of them go side by side, one bit each, so that a group is looked at only once.
     */
    private int squeezedWords(int column, long vectors) {
        int words = 0;
        long fillsOfZeros = 0L;
        long fillsOfOnes = 0L;
        int place = 0;
        for (; place + GROUP <= LINES; place += GROUP) {
            long everywhere = vectors;
            long somewhere = 0L;
            for (int i = place; i < place + GROUP; i++) {
                long slices = slicesAt(arrangement.lines[i], column) & vectors;
                everywhere &= slices;
                somewhere |= slices;
            }
            long nowhere = vectors & ~somewhere;
            words += Long.bitCount(somewhere & ~everywhere);
            words += Long.bitCount(everywhere & ~fillsOfOnes) + Long.bitCount(nowhere & ~fillsOfZeros);
            fillsOfOnes = everywhere;
            fillsOfZeros = nowhere;
        }
        // 64 lines leave a short last group, which is a word of its own whatever it holds.
        return place < LINES ? words + Long.bitCount(vectors) : words;
    }

    // ---- the parts

    /** The rows, the changes that can be undone, and the marks. */
    private static final class Table {
        static final int EMPTY = -1;
        private static final int BITS_OF_NUMBER = 8;
        private static final int NUMBER_MASK = 255;

        private final int[] rows;
        private final int[] changedLines;
        private final int[] rowsBefore;
        private final int[] markedRows;
        private int rowsThere;
        private int nextChange;
        private int changes;
        private int marks;

        Table() {
            rows = new int[LINES];
            for (int line = 0; line < LINES; line++) rows[line] = EMPTY;
            changedLines = new int[MOST_CHANGES];
            rowsBefore = new int[MOST_CHANGES];
            markedRows = new int[MOST_MARKS * LINES];
        }

        static int packed(int a, int b, int c, int d) {
            return altered(altered(altered(altered(0, 0, a), 1, b), 2, c), 3, d);
        }

        static int altered(int row, int column, int v) {
            int shift = BITS_OF_NUMBER * column;
            return (row & ~(NUMBER_MASK << shift)) | (v << shift);
        }

        boolean hasRow(int line) {
            return line >= 0 && line < LINES && rows[line] != EMPTY;
        }

        /** NONE, if the line has no row. */
        int number(int line, int column) {
            return hasRow(line) ? (rows[line] >> (BITS_OF_NUMBER * column)) & NUMBER_MASK : NONE;
        }

        int rowCount() {
            return rowsThere;
        }

        int changesKept() {
            return changes;
        }

        int markCount() {
            return marks;
        }

        int leastEmpty() {
            for (int line = 0; line < LINES; line++) {
                if (!hasRow(line)) return line;
            }
            return NONE;
        }

        /** PRESENT. */
        long linesWithRow() {
            long lines = 0L;
            for (int line = 0; line < LINES; line++) {
                if (hasRow(line)) lines |= 1L << line;
            }
            return lines;
        }

        long linesWith(int column, int v) {
            long lines = 0L;
            for (int line = 0; line < LINES; line++) {
                if (hasRow(line) && number(line, column) == v) lines |= 1L << line;
            }
            return lines;
        }

        long linesBelow(int column, int v) {
            long lines = 0L;
            for (int line = 0; line < LINES; line++) {
                if (hasRow(line) && number(line, column) < v) lines |= 1L << line;
            }
            return lines;
        }

        /** A line becomes a row, or EMPTY; what it was is kept, so that every kind of change is undone alike. */
        void change(int line, int row) {
            changedLines[nextChange] = line;
            rowsBefore[nextChange] = rows[line];
            nextChange = nextChange + 1 < MOST_CHANGES ? nextChange + 1 : 0;
            changes = Math.min(changes + 1, MOST_CHANGES);
            put(line, row);
        }

        void changeNumber(int line, int column, int v) {
            if (hasRow(line)) change(line, altered(rows[line], column, v));
        }

        boolean undoLatest() {
            if (changes == 0) return false;
            nextChange = nextChange > 0 ? nextChange - 1 : MOST_CHANGES - 1;
            changes--;
            put(changedLines[nextChange], rowsBefore[nextChange]);
            return true;
        }

        void forgetChanges() {
            changes = 0;
        }

        boolean keepMark() {
            if (marks >= MOST_MARKS) return false;
            for (int line = 0; line < LINES; line++) markedRows[marks * LINES + line] = rows[line];
            marks++;
            return true;
        }

        boolean returnTo(int mark) {
            if (mark < 0 || mark >= marks) return false;
            for (int line = 0; line < LINES; line++) put(line, markedRows[mark * LINES + line]);
            marks = mark + 1;
            forgetChanges();
            return true;
        }

        private void put(int line, int row) {
            if (rows[line] != EMPTY) rowsThere--;
            if (row != EMPTY) rowsThere++;
            rows[line] = row;
        }
    }

    /** A column's size, its design, and which of its vectors are torn. */
    private static final class Column {
        private static final int BASE_OF_TOLD = 100;

        private int size;
        private int sort;
        private int baseCount;
        private int room;
        private long torn;
        private final int[] bases;
        private final int[] toldBases;
        /** For each figure the product of the bases below it, and the number of its first vector. */
        private final int[] strides;
        private final int[] firstVectors;
        /** For each number of the column the vectors that have a 1 for it. */
        private final long[] slices;

        Column() {
            bases = new int[MOST_BASES];
            toldBases = new int[MOST_BASES];
            strides = new int[MOST_BASES];
            firstVectors = new int[MOST_BASES];
            slices = new long[MOST_SIZE];
            resize(FIRST_SIZE);
        }

        void resize(int c) {
            size = c;
            sort = EACH;
            baseCount = 1;
            bases[0] = c;
            settle();
        }

        boolean has(int v) {
            return v >= 0 && v < size;
        }

        int numberFrom(int x) {
            return x % Math.max(size, LEAST_SIZE);
        }

        boolean isTorn(int v) {
            return ((torn >>> v) & 1L) != 0L;
        }

        long slicesOf(int v) {
            return has(v) ? slices[v] : 0L;
        }

        /** Takes a design, or changes nothing where none is told. */
        boolean redesign(int newSort, long told) {
            int many = takeTold(told);
            if (many == NONE || !isDesign(toldBases, many, newSort)) return false;
            sort = newSort;
            baseCount = many;
            for (int i = 0; i < many; i++) bases[i] = toldBases[i];
            settle();
            return true;
        }

        /** How many bases are told; NONE: a figure is no base, or they are too many. */
        private int takeTold(long told) {
            if (told <= 0L) return NONE;
            long rest = told;
            int many = 0;
            for (int i = 0; i < MOST_BASES && rest > 0L; i++) {
                int base = (int) (rest % BASE_OF_TOLD);
                if (base < LEAST_BASE || base > MOST_BASE) return NONE;
                toldBases[i] = base;
                rest /= BASE_OF_TOLD;
                many = i + 1;
            }
            return rest == 0L ? many : NONE;
        }

        private boolean isDesign(int[] some, int many, int ofSort) {
            int vectors = 0;
            for (int i = 0; i < many; i++) vectors += Figures.roomOf(ofSort, some[i]);
            return vectors <= MOST_ROOM && Figures.tellJust(some, many, size);
        }

        private void settle() {
            torn = 0L;
            room = 0;
            int stride = 1;
            for (int i = 0; i < baseCount; i++) {
                strides[i] = stride;
                firstVectors[i] = room;
                stride *= bases[i];
                room += Figures.roomOf(sort, bases[i]);
            }
            for (int v = 0; v < size; v++) slices[v] = slicesByFigures(v);
        }

        private int figureOf(int v, int i) {
            return v / Math.max(strides[i], 1) % Math.max(bases[i], LEAST_BASE);
        }

        private long slicesByFigures(int v) {
            long bits = 0L;
            for (int i = 0; i < baseCount; i++) {
                bits |= Figures.slicesOfFigure(sort, bases[i], figureOf(v, i)) << firstVectors[i];
            }
            return bits;
        }

        long readForEqual(int c) {
            if (!has(c)) return 0L;
            long read = 0L;
            for (int i = 0; i < baseCount; i++) {
                read |= Figures.readForFigure(sort, bases[i], figureOf(c, i)) << firstVectors[i];
            }
            return read;
        }

        /** Of c = 0 every figure is 0, so nothing is read for it, as the document wants. */
        long readForBelow(int c) {
            if (!has(c)) return 0L;
            long read = 0L;
            for (int i = 0; i < baseCount; i++) {
                int figure = figureOf(c, i);
                long ofFigure = Figures.readBelowFigure(sort, bases[i], figure);
                if (read != 0L) ofFigure |= Figures.readForFigure(sort, bases[i], figure);
                read |= ofFigure << firstVectors[i];
            }
            return read;
        }

        int designCost(int e, int l) {
            int total = 0;
            for (int i = 0; i < baseCount; i++) {
                total += Figures.costOf(sort, bases[i], strides[i], size, e, l);
            }
            return total;
        }
    }

    /** What holds of one figure, told by the sort and its base. */
    private static final class Figures {
        private Figures() {
        }

        static int roomOf(int sort, int base) {
            return sort == EACH && base > 2 ? base : base - 1;
        }

        /** In which of the figure's vectors a number with this figure has a 1. */
        static long slicesOfFigure(int sort, int base, int figure) {
            if (sort == UP_TO) return lowBits(base - 1) & ~lowBits(figure);
            return base == 2 ? figure : 1L << figure;
        }

        static long readForFigure(int sort, int base, int v) {
            if (sort == EACH) return base == 2 ? 1L : 1L << v;
            if (v == 0) return 1L;
            return v == base - 1 ? 1L << (v - 1) : 3L << (v - 1);
        }

        /** Nothing is below 0, so nothing is read for it. */
        static long readBelowFigure(int sort, int base, int v) {
            if (v == 0) return 0L;
            if (sort == UP_TO) return 1L << (v - 1);
            if (base == 2) return 1L;
            return 2 * v > base ? lowBits(base) & ~lowBits(v) : lowBits(v);
        }

        /**
         * What one figure adds to the cost. Numbers come in runs, as long as the stride, that
         * have the figure alike; only the first of a run has zeros for all lower figures, so
         * for it alone "=" is not read beside "<".
         */
        static int costOf(int sort, int base, int stride, int size, int e, int l) {
            int forEqual = 0;
            int forBelow = 0;
            int figure = 0;
            int step = Math.max(stride, 1);
            for (int from = 0; from < size; from += step) {
                int run = Math.min(step, size - from);
                long equal = readForFigure(sort, base, figure);
                long below = readBelowFigure(sort, base, figure);
                forEqual += run * Long.bitCount(equal);
                forBelow += Long.bitCount(below) + (run - 1) * Long.bitCount(below | equal);
                figure = figure + 1 < base ? figure + 1 : 0;
            }
            return e * forEqual + l * forBelow;
        }

        /** Whether the bases tell every number of the size, and none of them could be left out. */
        static boolean tellJust(int[] bases, int many, int size) {
            int product = 1;
            for (int i = 0; i < many; i++) product *= bases[i];
            if (product < size) return false;
            for (int i = 0; i < many; i++) {
                if (product / Math.max(bases[i], LEAST_BASE) >= size) return false;
            }
            return true;
        }
    }

    /** The best design of a size within a room. */
    private static final class Search {
        private boolean found;
        private int bestCost;
        private int bestRoom;
        private int bestSort;
        private int bestCount;
        private final int[] bestBases;
        private final int[] trial;
        private int size;
        private int mostRoom;
        private int weightOfEqual;
        private int weightOfBelow;
        private int sort;
        private int wanted;

        Search() {
            bestBases = new int[MOST_BASES];
            trial = new int[MOST_BASES];
        }

        /**
         * Designs are met by sort, then by how many bases, then from the least first base on:
         * of those alike in cost and room the first met is the best.
         */
        void seek(int ofSize, int room, int e, int l) {
            size = ofSize;
            mostRoom = room;
            weightOfEqual = e;
            weightOfBelow = l;
            found = false;
            for (int ofSort = EACH; ofSort <= UP_TO; ofSort++) {
                for (int many = 1; many <= MOST_BASES; many++) {
                    sort = ofSort;
                    wanted = many;
                    extend(this, 0, 1, 0, 0);
                }
            }
        }

        /** Tries every base behind the first ones. */
        private static void extend(Search search, int depth, int product, int room, int cost) {
            if (depth >= MOST_BASES) return;
            boolean last = depth + 1 == search.wanted;
            for (int base = LEAST_BASE; base <= MOST_BASE; base++) {
                int newRoom = room + Figures.roomOf(search.sort, base);
                if (newRoom > search.mostRoom) return;
                int newProduct = product * base;
                // A base behind enough others could be left out.
                if (!last && newProduct >= search.size) return;
                search.trial[depth] = base;
                if (last && !Figures.tellJust(search.trial, search.wanted, search.size)) continue;
                int newCost = cost + search.figureCost(base, product);
                if (search.found && newCost > search.bestCost) continue;
                if (last) {
                    search.consider(newRoom, newCost);
                } else {
                    extend(search, depth + 1, newProduct, newRoom, newCost);
                }
            }
        }

        private int figureCost(int base, int stride) {
            return Figures.costOf(sort, base, stride, size, weightOfEqual, weightOfBelow);
        }

        private void consider(int room, int cost) {
            if (found && (cost > bestCost || (cost == bestCost && room >= bestRoom))) return;
            found = true;
            bestCost = cost;
            bestRoom = room;
            bestSort = sort;
            bestCount = wanted;
            for (int i = 0; i < wanted; i++) bestBases[i] = trial[i];
        }
    }

    /** The letters that were told, and how they are read as a question. */
    private static final class Page {
        private static final int AT_FACTOR = 0;
        private static final int AT_SIGN = 1;
        private static final int AT_DIGIT = 2;
        private static final int AT_SECOND_DIGIT = 3;
        private static final int BEHIND_FACTOR = 4;
        private static final int BYTES = 8;
        private static final int BYTE_BITS = 8;
        private static final int BYTE_MASK = 255;

        private final int[] codes;
        private int length;
        private int place;
        private int openBrackets;

        Page() {
            codes = new int[MOST_LETTERS];
        }

        /** How many letters w tells; NONE: it is not as told. */
        static int lettersIn(long w) {
            int many = 0;
            boolean ended = false;
            for (int i = 0; i < BYTES; i++) {
                int code = codeIn(w, i);
                if (code > MOST_LETTER || (ended && code != 0)) return NONE;
                if (code == 0) {
                    ended = true;
                } else {
                    many++;
                }
            }
            return many;
        }

        private static int codeIn(long w, int i) {
            return (int) (w >>> (BYTE_BITS * i)) & BYTE_MASK;
        }

        void append(long w, int many) {
            for (int i = 0; i < many && length < MOST_LETTERS; i++) {
                codes[length] = codeIn(w, i);
                length++;
            }
        }

        /** From every place that is reached a question can be ended, so the first letter that does not fit decides. */
        int goodLetters() {
            place = AT_FACTOR;
            openBrackets = 0;
            for (int i = 0; i < length; i++) {
                place = placeBehind(codes[i]);
                if (place == NONE) return i;
            }
            return length;
        }

        boolean isQuestion() {
            if (goodLetters() < length) return false;
            return openBrackets == 0 && (place == AT_SECOND_DIGIT || place == BEHIND_FACTOR);
        }

        private int placeBehind(int code) {
            switch (place) {
                case AT_FACTOR: return behindFactorStart(code);
                case AT_SIGN: return code == '<' || code == '=' || code == '>' ? AT_DIGIT : NONE;
                case AT_DIGIT: return isDigit(code) ? AT_SECOND_DIGIT : NONE;
                case AT_SECOND_DIGIT: return isDigit(code) ? BEHIND_FACTOR : behindWholeFactor(code);
                case BEHIND_FACTOR: return behindWholeFactor(code);
                default: return NONE;
            }
        }

        private int behindFactorStart(int code) {
            if (code == '!') return AT_FACTOR;
            if (code == '(') {
                openBrackets++;
                return AT_FACTOR;
            }
            return code >= 'a' && code <= 'd' ? AT_SIGN : NONE;
        }

        private int behindWholeFactor(int code) {
            if (code == '&' || code == '|') return AT_FACTOR;
            if (code != ')' || openBrackets == 0) return NONE;
            openBrackets--;
            return BEHIND_FACTOR;
        }

        private static boolean isDigit(int code) {
            return code >= '0' && code <= '9';
        }

        int codeAt(int i) {
            return i >= 0 && i < length ? codes[i] : 0;
        }

        /** The number of a comparison whose letter stands at i. */
        int numberBehind(int i) {
            int first = codeAt(i + 2) - '0';
            int second = codeAt(i + 3);
            return isDigit(second) ? 10 * first + second - '0' : first;
        }
    }

    /**
     * A question as steps: comparisons, and signs that take what came before them from a pile.
     * So brackets need no recursion.
     */
    private static final class Question {
        /** Steps that are no comparison; the closer a sign binds, the higher it is. */
        private static final int NOT = -1;
        private static final int AND = -2;
        private static final int OR = -3;
        private static final int OPEN = -4;
        private static final int SIGN_OF = 2;
        private static final int NUMBER_OF = 4;
        private static final int LOW_TWO = 3;
        private static final int BELOW = 0;
        private static final int EQUAL = 1;
        private static final int ABOVE = 2;

        private final int[] steps;
        private final int[] waiting;
        private final long[] pile;
        private int stepCount;
        private int waits;
        private int comparisons;

        /** Reads a page that is known to be a question. */
        Question(Page page) {
            steps = new int[page.length];
            waiting = new int[page.length];
            pile = new long[page.length];
            for (int i = 0; i < page.length; i++) takeLetter(page, i);
            writeWaiting(OR);
        }

        /** Signs and digits of a comparison are taken with its letter, so by themselves they say nothing. */
        private void takeLetter(Page page, int i) {
            int code = page.codeAt(i);
            if (code == '!') {
                hold(NOT);
            } else if (code == '(') {
                hold(OPEN);
            } else if (code == '&' || code == '|') {
                int sign = code == '&' ? AND : OR;
                writeWaiting(sign);
                hold(sign);
            } else if (code == ')') {
                writeWaiting(OR);
                if (waits > 0) waits--;
            } else if (code >= 'a' && code <= 'd') {
                write(comparisonAt(page, i));
                comparisons++;
            }
        }

        private void hold(int sign) {
            if (waits >= waiting.length) return;
            waiting[waits] = sign;
            waits++;
        }

        private void write(int step) {
            if (stepCount >= steps.length) return;
            steps[stepCount] = step;
            stepCount++;
        }

        /** Signs that bind as close as this one, or closer, take what they join before it does. */
        private void writeWaiting(int sign) {
            while (waits > 0 && waiting[waits - 1] >= sign) {
                waits--;
                write(waiting[waits]);
            }
        }

        private static int comparisonAt(Page page, int i) {
            int code = page.codeAt(i + 1);
            int sign = code == '<' ? BELOW : code == '=' ? EQUAL : ABOVE;
            return (page.codeAt(i) - 'a') | (sign << SIGN_OF) | (page.numberBehind(i) << NUMBER_OF);
        }

        /** Which vectors of a column are read for all comparisons together. */
        long readOf(int column, Column told) {
            long read = 0L;
            for (int i = 0; i < stepCount; i++) {
                int step = steps[i];
                if (step < 0 || (step & LOW_TWO) != column) continue;
                int sign = (step >> SIGN_OF) & LOW_TWO;
                int number = step >> NUMBER_OF;
                if (sign == EQUAL) {
                    read |= told.readForEqual(number);
                } else {
                    read |= told.readForBelow(sign == BELOW ? number : number + 1);
                }
            }
            return read;
        }

        long leftLines(Table table) {
            long present = table.linesWithRow();
            int height = 0;
            for (int i = 0; i < stepCount; i++) {
                int step = steps[i];
                if (step >= 0 && height < pile.length) {
                    pile[height] = linesThatHold(table, step, present);
                    height++;
                } else if (step == NOT && height > 0) {
                    pile[height - 1] = present & ~pile[height - 1];
                } else if (height > 1) {
                    height--;
                    pile[height - 1] = step == AND ? pile[height - 1] & pile[height] : pile[height - 1] | pile[height];
                }
            }
            return height > 0 ? pile[0] : 0L;
        }

        private static long linesThatHold(Table table, int step, long present) {
            int column = step & LOW_TWO;
            int number = step >> NUMBER_OF;
            switch ((step >> SIGN_OF) & LOW_TWO) {
                case BELOW: return table.linesBelow(column, number);
                case EQUAL: return table.linesWith(column, number);
                default: return present & ~table.linesBelow(column, number + 1);
            }
        }
    }

    /** The lines by an order. */
    private static final class Arrangement {
        static final int MOST_ORDER = 255;
        private static final int BITS_OF_COLUMN = 2;
        private static final int COLUMN_MASK = 3;
        private static final int ALL_FOUR = 15;

        private final int[] lines;
        private int rowCount;

        Arrangement() {
            lines = new int[LINES];
        }

        static boolean isOrder(int order) {
            if (order < 0 || order > MOST_ORDER) return false;
            int seen = 0;
            for (int level = 0; level < COLUMNS; level++) seen |= 1 << columnAt(order, level);
            return seen == ALL_FOUR;
        }

        private static int columnAt(int order, int level) {
            return (order >> (BITS_OF_COLUMN * (COLUMNS - 1 - level))) & COLUMN_MASK;
        }

        /** Every sorting keeps what lies alike in its place, so at last like rows lie by line. */
        void arrange(Table table, int order, boolean turning) {
            layByLine(table);
            sortRun(table, 0, rowCount, columnAt(order, 0), false);
            for (int level = 1; level < COLUMNS; level++) {
                boolean falls = false;
                int from = 0;
                while (from < rowCount) {
                    int to = runEnd(table, from, order, level);
                    sortRun(table, from, to, columnAt(order, level), falls);
                    falls = turning && !falls;
                    from = Math.max(to, from + 1);
                }
            }
        }

        private void layByLine(Table table) {
            rowCount = 0;
            int empties = table.rowCount();
            for (int line = 0; line < LINES; line++) {
                if (table.hasRow(line)) {
                    lines[rowCount] = line;
                    rowCount++;
                } else if (empties < LINES) {
                    lines[empties] = line;
                    empties++;
                }
            }
        }

        /** Where the rows end that are like the one at from in the first columns of the order. */
        private int runEnd(Table table, int from, int order, int level) {
            int to = from + 1;
            while (to < rowCount && alike(table, lines[from], lines[to], order, level)) to++;
            return to;
        }

        private static boolean alike(Table table, int one, int other, int order, int level) {
            for (int i = 0; i < level; i++) {
                int column = columnAt(order, i);
                if (table.number(one, column) != table.number(other, column)) return false;
            }
            return true;
        }

        private void sortRun(Table table, int from, int to, int column, boolean falls) {
            for (int i = from + 1; i < to; i++) {
                int line = lines[i];
                int v = table.number(line, column);
                int at = i;
                while (at > from && isBehind(table.number(lines[at - 1], column), v, falls)) {
                    lines[at] = lines[at - 1];
                    at--;
                }
                lines[at] = line;
            }
        }

        private static boolean isBehind(int number, int v, boolean falls) {
            return falls ? number < v : number > v;
        }
    }
}
