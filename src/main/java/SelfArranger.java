/**
 * A table that arranges itself: queries take the way that touches the fewest pages by exact counts,
 * go through a pool of frames, and are noted in a ledger with weights that fade; which indexes would
 * serve them best within a budget of pages is found out, and indexes are built step by step beside
 * the changes that go on.
 *
 * <p>All arrays are made by the constructor and used again, so that no call makes an object.
 */
public final class SelfArranger {
    public static final int NONE = -1;

    private static final int COLUMNS = 3;
    private static final int MOST_ROWS = 64;
    private static final int LEAST_VALUE = -1000;
    private static final int MOST_VALUE = 1000;
    private static final int INDEXES = 9;
    private static final int SETS = 1 << INDEXES;
    private static final int[] FIRST_COLUMN = {0, 1, 2, 0, 0, 1, 1, 2, 2};
    private static final int[] SECOND_COLUMN = {NONE, NONE, NONE, 1, 2, 0, 2, 0, 1};
    private static final int PAGE_ROOM = 4;
    private static final int MOST_BUDGET = 200;
    private static final int FIRST_BUDGET = 16;

    private final Table table;
    private final Conditions conditions;
    private final Stretch stretch;
    private final WayCosts wayCosts;
    private final Pool pool;
    private final Ledger ledger;
    private final Adviser adviser;
    private final Builder builder;
    private final RowList found;
    private int orderColumn;
    private int rowLimit;
    private int budgetPages;
    private int lastWay;
    private int lastCost;

    public SelfArranger(int frames) {
        table = new Table();
        conditions = new Conditions();
        stretch = new Stretch(table);
        wayCosts = new WayCosts();
        pool = new Pool(frames);
        ledger = new Ledger();
        adviser = new Adviser(table, stretch, ledger);
        builder = new Builder(table);
        found = new RowList();
        orderColumn = NONE;
        rowLimit = MOST_ROWS;
        budgetPages = FIRST_BUDGET;
        lastWay = NONE;
    }

    public int insert(int a, int b, int c) throws IllegalArgumentException, UnsupportedOperationException {
        requireValue(a);
        requireValue(b);
        requireValue(c);
        if (table.isFull()) {
            throw new UnsupportedOperationException("there were 64 rows");
        }
        int row = table.add(a, b, c);
        noteChange(row);
        return row;
    }

    public void delete(int row) throws IndexOutOfBoundsException {
        requireRow(row);
        table.remove(row);
        noteChange(row);
    }

    public void change(int row, int column, int v) throws IndexOutOfBoundsException, IllegalArgumentException {
        requireRow(row);
        requireColumn(column);
        requireValue(v);
        table.put(row, column, v);
        noteChange(row);
    }

    public int value(int row, int column) throws IndexOutOfBoundsException {
        requireRow(row);
        requireColumn(column);
        return table.at(row, column);
    }

    public void where(int column, int kind, int from, int to)
            throws IndexOutOfBoundsException, IllegalArgumentException {
        requireColumn(column);
        if (kind < Conditions.FREE || kind > Conditions.BETWEEN) {
            throw new IllegalArgumentException("no such kind of condition");
        }
        conditions.put(column, kind, from, to);
    }

    public void order(int column, int limit) throws IndexOutOfBoundsException, IllegalArgumentException {
        if (column != NONE) {
            requireColumn(column);
        }
        if (limit < 0 || limit > MOST_ROWS) {
            throw new IllegalArgumentException("the limit is not 0 .. 64");
        }
        orderColumn = column;
        rowLimit = limit;
    }

    public int ask() {
        takeCheapestWay();
        touchPages();
        findAnswer();
        ledger.noteQuery(conditions);
        return found.count;
    }

    public int answer(int k) throws IndexOutOfBoundsException {
        if (k < 0 || k >= found.count) {
            throw new IndexOutOfBoundsException("the answer has no such row");
        }
        return found.rows[k];
    }

    public int last(int what) throws IndexOutOfBoundsException {
        switch (what) {
            case 0:
                return lastWay;
            case 1:
                return lastCost;
            case 2:
                return pool.touched;
            case 3:
                return pool.misses;
            default:
                throw new IndexOutOfBoundsException("no such figure of an asking");
        }
    }

    public int cost(int index) throws IndexOutOfBoundsException {
        if (index != NONE) {
            requireIndex(index);
        }
        wayCosts.measure(table, stretch, conditions);
        return wayCosts.at(index);
    }

    public int index(int index, int what) throws IndexOutOfBoundsException {
        requireIndex(index);
        switch (what) {
            case 0:
                return builder.states[index];
            case 1:
                return table.indexHeight();
            case 2:
                return table.indexSize();
            case 3:
                return table.firstEntry(FIRST_COLUMN[index], SECOND_COLUMN[index]);
            default:
                throw new IndexOutOfBoundsException("no such figure of an index");
        }
    }

    public int shapes() {
        return ledger.count;
    }

    public int shape(int k, int what) throws IndexOutOfBoundsException {
        if (k < 0 || k >= ledger.count) {
            throw new IndexOutOfBoundsException("no such shape");
        }
        Shape shape = ledger.shapes[k];
        switch (what) {
            case 0:
                return shape.weight;
            case 1:
                return shape.kept.kindsCode();
            case 2:
                shape.wayCosts.measure(table, stretch, shape.kept);
                return shape.wayCosts.least(builder.readySet());
            default:
                throw new IndexOutOfBoundsException("no such figure of a shape");
        }
    }

    public int changes() {
        return ledger.changesWeight;
    }

    public int period() {
        ledger.fade();
        return ledger.count;
    }

    public void budget(int pages) throws IllegalArgumentException {
        if (pages < 0 || pages > MOST_BUDGET) {
            throw new IllegalArgumentException("the budget is not 0 .. 200");
        }
        budgetPages = pages;
    }

    public int choose() {
        adviser.measure();
        return adviser.bestSet(budgetPages);
    }

    public long costOf(int set) throws IllegalArgumentException {
        if (set < 0 || set >= SETS) {
            throw new IllegalArgumentException("the set is not 0 .. 511");
        }
        adviser.measure();
        return adviser.setCost(set);
    }

    public void build(int index) throws IndexOutOfBoundsException, IllegalStateException {
        requireIndex(index);
        if (builder.isBusy() || builder.states[index] != Builder.ABSENT) {
            throw new IllegalStateException("the index is not none, or another one is building");
        }
        builder.begin(index);
    }

    public int work(int n) throws IllegalArgumentException, IllegalStateException {
        if (n < 1 || n > MOST_ROWS) {
            throw new IllegalArgumentException("the number is not 1 .. 64");
        }
        if (!builder.isBusy()) {
            throw new IllegalStateException("no index is building");
        }
        return builder.handle(n);
    }

    public boolean drop(int index) throws IndexOutOfBoundsException {
        requireIndex(index);
        return builder.discard(index);
    }

    private void requireRow(int row) {
        if (row < 0 || row >= table.inserted || !table.there[row]) {
            throw new IndexOutOfBoundsException("the row is not there");
        }
    }

    private static void requireColumn(int column) {
        if (column < 0 || column >= COLUMNS) {
            throw new IndexOutOfBoundsException("no such column");
        }
    }

    private static void requireIndex(int index) {
        if (index < 0 || index >= INDEXES) {
            throw new IndexOutOfBoundsException("no such index");
        }
    }

    private static void requireValue(int v) {
        if (v < LEAST_VALUE || v > MOST_VALUE) {
            throw new IllegalArgumentException("the value is not from -1000 to 1000");
        }
    }

    private void noteChange(int row) {
        ledger.noteChange();
        builder.noteChange(row);
    }

    private void takeCheapestWay() {
        wayCosts.measure(table, stretch, conditions);
        lastWay = wayCosts.cheapest(builder.readySet());
        lastCost = wayCosts.at(lastWay);
    }

    private void touchPages() {
        pool.countAnew();
        if (lastWay == NONE) {
            touchHeap();
        } else {
            touchIndex(lastWay);
        }
    }

    private void touchHeap() {
        int pages = table.heapPages();
        for (int page = 0; page < pages; page++) {
            pool.touch(NONE, 0, page);
        }
    }

    private void touchIndex(int index) {
        // Measuring the costs left the stretch of another index behind.
        stretch.lay(conditions, index);
        int leaf = stretch.firstLeaf();
        for (int level = table.indexHeight(); level >= 1; level--) {
            pool.touch(index, level, nodeAbove(leaf, level));
        }
        int leaves = stretch.leaves();
        for (int k = 0; k < leaves; k++) {
            pool.touch(index, 0, leaf + k);
        }
        stretch.sort();
        for (int k = 0; k < stretch.entries.count; k++) {
            pool.touch(NONE, 0, stretch.entries.rows[k] / PAGE_ROOM);
        }
    }

    private static int nodeAbove(int leaf, int level) {
        int node = leaf;
        for (int k = 0; k < level; k++) {
            node = node / PAGE_ROOM;
        }
        return node;
    }

    private void findAnswer() {
        found.count = 0;
        for (int row = 0; row < table.inserted; row++) {
            if (table.there[row] && conditions.fitRow(table, row)) {
                found.append(row);
            }
        }
        found.sort(table, orderColumn, NONE);
        found.count = Math.min(found.count, rowLimit);
    }

    private static int groupsOfFour(int n) {
        return (n + PAGE_ROOM - 1) / PAGE_ROOM;
    }

    /** The rows, and the form of the indexes: each has all rows that are there, so all have one form. */
    private static final class Table {
        private final int[] values = new int[COLUMNS * MOST_ROWS];
        private final boolean[] there = new boolean[MOST_ROWS];
        private int inserted;
        private int rowsThere;

        private boolean isFull() {
            return inserted >= MOST_ROWS;
        }

        private int add(int a, int b, int c) {
            int row = inserted;
            inserted++;
            put(row, 0, a);
            put(row, 1, b);
            put(row, 2, c);
            there[row] = true;
            rowsThere++;
            return row;
        }

        private void remove(int row) {
            there[row] = false;
            rowsThere--;
        }

        private void put(int row, int column, int v) {
            values[row * COLUMNS + column] = v;
        }

        private int at(int row, int column) {
            return values[row * COLUMNS + column];
        }

        private int heapPages() {
            return groupsOfFour(inserted);
        }

        private int indexLeaves() {
            return Math.max(1, groupsOfFour(rowsThere));
        }

        private int indexHeight() {
            int height = 0;
            int nodes = indexLeaves();
            while (nodes > 1 && height < MOST_ROWS) {
                nodes = groupsOfFour(nodes);
                height++;
            }
            return height;
        }

        private int indexSize() {
            int height = indexHeight();
            int nodes = indexLeaves();
            int size = nodes;
            for (int level = 1; level <= height; level++) {
                nodes = groupsOfFour(nodes);
                size += nodes;
            }
            return size;
        }

        private int firstEntry(int first, int second) {
            int least = NONE;
            for (int row = 0; row < inserted; row++) {
                if (there[row] && (least == NONE || isAfter(least, row, first, second))) {
                    least = row;
                }
            }
            return least;
        }

        /** Whether row comes behind other by their values alone; a column NONE does not count. */
        private boolean isAfter(int row, int other, int first, int second) {
            int order = compare(row, other, first);
            return order > 0 || order == 0 && compare(row, other, second) > 0;
        }

        private int compare(int row, int other, int column) {
            return column == NONE ? 0 : Integer.compare(at(row, column), at(other, column));
        }
    }

    private static final class RowList {
        private final int[] rows = new int[MOST_ROWS];
        private int count;

        private void append(int row) {
            if (count < rows.length) {
                rows[count] = row;
                count++;
            }
        }

        /** Keeps rows of the same values as they stood: they were appended by their numbers. */
        private void sort(Table table, int first, int second) {
            for (int k = 1; k < count; k++) {
                int row = rows[k];
                int place = k;
                while (place > 0 && table.isAfter(rows[place - 1], row, first, second)) {
                    rows[place] = rows[place - 1];
                    place--;
                }
                rows[place] = row;
            }
        }
    }

    private static final class Conditions {
        private static final int FREE = 0;
        private static final int SAME = 1;
        private static final int BETWEEN = 2;
        private static final int KINDS = 3;

        private final int[] kinds = new int[COLUMNS];
        private final int[] froms = new int[COLUMNS];
        private final int[] tos = new int[COLUMNS];

        private void put(int column, int kind, int from, int to) {
            kinds[column] = kind;
            froms[column] = from;
            tos[column] = kind == SAME ? from : to;
        }

        private void copy(Conditions other) {
            for (int column = 0; column < COLUMNS; column++) {
                put(column, other.kinds[column], other.froms[column], other.tos[column]);
            }
        }

        private boolean binds(int column) {
            return kinds[column] != FREE;
        }

        private boolean fit(int column, int v) {
            return kinds[column] == FREE || froms[column] <= v && v <= tos[column];
        }

        private boolean fitRow(Table table, int row) {
            for (int column = 0; column < COLUMNS; column++) {
                if (!fit(column, table.at(row, column))) {
                    return false;
                }
            }
            return true;
        }

        private int kindsCode() {
            int code = 0;
            for (int column = COLUMNS - 1; column >= 0; column--) {
                code = code * KINDS + kinds[column];
            }
            return code;
        }
    }

    /** The entries of an index that a query has to look at. */
    private static final class Stretch {
        private final Table table;
        private final RowList entries = new RowList();
        private int first;
        private int second;
        private boolean secondCounts;
        private int before;

        private Stretch(Table table) {
            this.table = table;
        }

        private void lay(Conditions conditions, int index) {
            first = FIRST_COLUMN[index];
            second = SECOND_COLUMN[index];
            secondCounts = second != NONE && conditions.kinds[first] == Conditions.SAME && conditions.binds(second);
            before = 0;
            entries.count = 0;
            for (int row = 0; row < table.inserted; row++) {
                if (table.there[row]) {
                    place(conditions, row);
                }
            }
        }

        private void place(Conditions conditions, int row) {
            if (isBefore(conditions, row)) {
                before++;
            } else if (isInside(conditions, row)) {
                entries.append(row);
            }
        }

        private boolean isBefore(Conditions conditions, int row) {
            int v = table.at(row, first);
            int from = conditions.froms[first];
            return v < from || secondCounts && v == from && table.at(row, second) < conditions.froms[second];
        }

        private boolean isInside(Conditions conditions, int row) {
            return conditions.fit(first, table.at(row, first))
                    && (!secondCounts || conditions.fit(second, table.at(row, second)));
        }

        private void sort() {
            entries.sort(table, first, second);
        }

        /** The entries before it stand before it in the index, so their number is the place of its first one. */
        private int firstLeaf() {
            return Math.min(before / PAGE_ROOM, table.indexLeaves() - 1);
        }

        private int leaves() {
            if (entries.count == 0) {
                return 1;
            }
            return (before + entries.count - 1) / PAGE_ROOM - before / PAGE_ROOM + 1;
        }

        private int pages() {
            return table.indexHeight() + leaves() + entries.count;
        }
    }

    private static final class WayCosts {
        private final int[] byIndex = new int[INDEXES];
        private int heap;

        private void measure(Table table, Stretch stretch, Conditions conditions) {
            heap = table.heapPages();
            for (int index = 0; index < INDEXES; index++) {
                byIndex[index] = NONE;
                if (conditions.binds(FIRST_COLUMN[index])) {
                    stretch.lay(conditions, index);
                    byIndex[index] = stretch.pages();
                }
            }
        }

        private int at(int way) {
            return way == NONE ? heap : byIndex[way];
        }

        private int cheapest(int set) {
            int way = NONE;
            for (int index = 0; index < INDEXES; index++) {
                boolean isWay = (set >> index & 1) != 0 && byIndex[index] != NONE;
                if (isWay && byIndex[index] < at(way)) {
                    way = index;
                }
            }
            return way;
        }

        private int least(int set) {
            return at(cheapest(set));
        }
    }

    private static final class Shape {
        private final Conditions kept = new Conditions();
        private final WayCosts wayCosts = new WayCosts();
        private int weight;
    }

    private static final class Ledger {
        private static final int MOST_SHAPES = 8;
        private static final int QUERY_WEIGHT = 16;
        private static final int CHANGE_WEIGHT = 4;

        private final Shape[] shapes = new Shape[MOST_SHAPES];
        private int count;
        private int changesWeight;

        private Ledger() {
            for (int k = 0; k < MOST_SHAPES; k++) {
                shapes[k] = new Shape();
            }
        }

        private void noteQuery(Conditions conditions) {
            int k = placeOf(conditions.kindsCode());
            if (k == MOST_SHAPES) {
                return;
            }
            if (k == count) {
                count++;
            }
            // A shape that is new grows from 0: only shapes of that weight ever go.
            shapes[k].weight += QUERY_WEIGHT;
            shapes[k].kept.copy(conditions);
        }

        private int placeOf(int kindsCode) {
            for (int k = 0; k < count; k++) {
                if (shapes[k].kept.kindsCode() == kindsCode) {
                    return k;
                }
            }
            return count;
        }

        private void noteChange() {
            changesWeight += CHANGE_WEIGHT;
        }

        private void fade() {
            changesWeight = threeQuarters(changesWeight);
            int left = 0;
            for (int k = 0; k < count; k++) {
                Shape shape = shapes[k];
                shape.weight = threeQuarters(shape.weight);
                if (shape.weight > 0) {
                    // The shape that goes changes places, so that its object can be used again.
                    shapes[k] = shapes[left];
                    shapes[left] = shape;
                    left++;
                }
            }
            count = left;
        }

        private static int threeQuarters(int weight) {
            return weight * 3 / 4;
        }
    }

    private static final class Adviser {
        private final Table table;
        private final Stretch stretch;
        private final Ledger ledger;

        private Adviser(Table table, Stretch stretch, Ledger ledger) {
            this.table = table;
            this.stretch = stretch;
            this.ledger = ledger;
        }

        /** Apart from the sets' costs, since one measuring serves all sets. */
        private void measure() {
            for (int k = 0; k < ledger.count; k++) {
                Shape shape = ledger.shapes[k];
                shape.wayCosts.measure(table, stretch, shape.kept);
            }
        }

        private long setCost(int set) {
            long sum = 0;
            for (int k = 0; k < ledger.count; k++) {
                Shape shape = ledger.shapes[k];
                sum += (long) shape.weight * shape.wayCosts.least(set);
            }
            long upkeep = (long) ledger.changesWeight * (table.indexHeight() + 1);
            return sum + upkeep * Integer.bitCount(set);
        }

        private int bestSet(int budget) {
            int size = table.indexSize();
            int best = 0;
            long leastCost = setCost(best);
            for (int set = 1; set < SETS; set++) {
                int indexes = Integer.bitCount(set);
                if (indexes * size <= budget) {
                    long setCost = setCost(set);
                    if (setCost < leastCost || setCost == leastCost && indexes < Integer.bitCount(best)) {
                        best = set;
                        leastCost = setCost;
                    }
                }
            }
            return best;
        }
    }

    private static final class Pool {
        private static final int LEAST_FRAMES = 2;
        private static final int MOST_FRAMES = 16;
        private static final int LEVELS = 4;
        private static final int PLACES = 16;

        private final int[] pages;
        private final boolean[] marked;
        private int hand;
        private int touched;
        private int misses;

        private Pool(int frames) {
            int count = Math.max(LEAST_FRAMES, Math.min(MOST_FRAMES, frames));
            pages = new int[count];
            marked = new boolean[count];
            for (int frame = 0; frame < count; frame++) {
                pages[frame] = NONE;
            }
        }

        private void countAnew() {
            touched = 0;
            misses = 0;
        }

        /** of: the index whose page it is, or NONE for the heap. */
        private void touch(int of, int level, int place) {
            int page = ((of + 1) * LEVELS + level) * PLACES + place;
            touched++;
            int frame = frameOf(page);
            if (frame == NONE) {
                misses++;
                frame = freeFrame();
                pages[frame] = page;
            }
            marked[frame] = true;
        }

        private int frameOf(int page) {
            for (int frame = 0; frame < pages.length; frame++) {
                if (pages[frame] == page) {
                    return frame;
                }
            }
            return NONE;
        }

        /** One round of the hand is enough: behind it no frame is marked. */
        private int freeFrame() {
            for (int step = 0; step < pages.length && marked[hand]; step++) {
                marked[hand] = false;
                moveHand();
            }
            int frame = hand;
            moveHand();
            return frame;
        }

        private void moveHand() {
            hand = hand + 1 < pages.length ? hand + 1 : 0;
        }
    }

    /**
     * The states of the indexes. Entries are always those of the rows as they are now, so of the side list
     * only its length can be seen, and only that is kept.
     */
    private static final class Builder {
        private static final int ABSENT = 0;
        private static final int BUILDING = 1;
        private static final int READY = 2;

        private final Table table;
        private final int[] states = new int[INDEXES];
        private int building;
        private int handled;
        private int sideLength;

        private Builder(Table table) {
            this.table = table;
            building = NONE;
        }

        private boolean isBusy() {
            return building != NONE;
        }

        private int readySet() {
            int set = 0;
            for (int index = 0; index < INDEXES; index++) {
                if (states[index] == READY) {
                    set |= 1 << index;
                }
            }
            return set;
        }

        private void begin(int index) {
            states[index] = BUILDING;
            building = index;
            handled = 0;
            sideLength = 0;
            finishIfDone();
        }

        private void noteChange(int row) {
            if (isBusy() && row < handled) {
                sideLength++;
            }
        }

        private int handle(int n) {
            int rows = Math.min(n, table.inserted - handled);
            handled += rows;
            sideLength -= Math.min(n - rows, sideLength);
            finishIfDone();
            return left();
        }

        private int left() {
            return table.inserted - handled + sideLength;
        }

        private void finishIfDone() {
            if (isBusy() && left() == 0) {
                states[building] = READY;
                building = NONE;
            }
        }

        private boolean discard(int index) {
            boolean was = states[index] != ABSENT;
            states[index] = ABSENT;
            if (building == index) {
                building = NONE;
            }
            return was;
        }
    }
}
