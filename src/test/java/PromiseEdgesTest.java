import java.util.function.ObjIntConsumer;

/**
 * Each sentence of the promises that names a boundary: the last input that is taken and the first that is refused on
 * either side, and, by a second object in the same state, that behind a refused call nothing has changed.
 */
public final class PromiseEdgesTest extends Trial {
    private static final State[] ALL = State.values();
    private static final State[] WITH_ROWS = {State.IN_USE, State.BUILDING, State.FULL};
    private static final State[] WITH_ROOM = {State.NEW, State.IN_USE, State.BUILDING};
    private static final State[] NOT_BUILDING = {State.NEW, State.IN_USE, State.FULL};

    public static void main(String[] args) {
        PromiseEdgesTest test = new PromiseEdgesTest();
        test.atLeastTwoFrames();
        test.atMostSixteenFrames();
        test.firstState();
        test.firstBudgetIsSixteen();
        test.insertedValues();
        test.insertOfRow64();
        test.insertNamesTheValueFirst();
        test.deletedRowIsThere();
        test.changedRowIsThere();
        test.changedColumn();
        test.changedValue();
        test.changeToTheSameValue();
        test.changeNamesTheRowFirst();
        test.rowOfAValueIsThere();
        test.columnOfAValue();
        test.whereColumn();
        test.whereKind();
        test.whereFromAndToAreFree();
        test.whereFromAboveTo();
        test.whereNamesTheColumnFirst();
        test.orderColumn();
        test.orderLimit();
        test.orderNamesTheColumnFirst();
        test.askAtTheLimit();
        test.answerHasSuchARow();
        test.answerAsItWasThen();
        test.lastBeforeAny();
        test.lastWhat();
        test.costIndex();
        test.costOfNoWay();
        test.indexNumber();
        test.indexWhat();
        test.firstEntryWithoutAny();
        test.shapesFromNoneToEight();
        test.shapeNumber();
        test.shapeWhat();
        test.changesFromNone();
        test.periodOfNothing();
        test.budgetPages();
        test.chooseWithoutShapes();
        test.costOfSet();
        test.buildIndex();
        test.buildWhenItIsNotNone();
        test.buildBesideAnother();
        test.workNumber();
        test.workWhenNoneIsBuilding();
        test.workNamesTheNumberFirst();
        test.workWhenItIsReady();
        test.dropIndex();
        test.dropWhetherItWasNot();
        test.callsThatOnlyTell();
        test.check.end();
    }

    /** The call with least and most is taken; beside them, and at the ends of int, it is refused. */
    private void between(String call, int least, int most, Class<? extends RuntimeException> due, State[] states,
            ObjIntConsumer<SelfArranger> run) {
        int[] wrong = {least - 1, most + 1, Integer.MIN_VALUE, Integer.MAX_VALUE};
        for (State state : states) {
            check.taken(call + " with " + least, state, x -> run.accept(x, least));
            check.taken(call + " with " + most, state, x -> run.accept(x, most));
            for (int n : wrong) {
                check.refused(call + " with " + n, due, state, x -> run.accept(x, n));
            }
        }
    }

    /** Rows that are not there: below 0, deleted, and not inserted yet. */
    private void onlyRowsThatAreThere(String call, ObjIntConsumer<SelfArranger> run) {
        for (int row : new int[] {Integer.MIN_VALUE, -1, 0, 1, Integer.MAX_VALUE}) {
            check.refused(call + " of row " + row, OUTSIDE, State.NEW, x -> run.accept(x, row));
        }
        for (int row : new int[] {Integer.MIN_VALUE, -1, 4, 21, 63, 64, Integer.MAX_VALUE}) {
            check.refused(call + " of row " + row, OUTSIDE, State.IN_USE, x -> run.accept(x, row));
        }
        for (int row : new int[] {-1, 1, 4, 21}) {
            check.refused(call + " of row " + row, OUTSIDE, State.BUILDING, x -> run.accept(x, row));
        }
        for (int row : new int[] {-1, 0, 63, 64, 65}) {
            check.refused(call + " of row " + row, OUTSIDE, State.FULL, x -> run.accept(x, row));
        }
        for (int row : new int[] {0, 3, 5, 20}) {
            check.taken(call + " of row " + row, State.IN_USE, x -> run.accept(x, row));
        }
        for (int row : new int[] {1, 62}) {
            check.taken(call + " of row " + row, State.FULL, x -> run.accept(x, row));
        }
    }

    /** How many of the heap's pages a second way through it misses. */
    private static int missesAgain(int frames, int pages) {
        SelfArranger x = table(frames, pages * 4);
        x.ask();
        x.ask();
        return x.last(3);
    }

    private void atLeastTwoFrames() {
        check.part("promise 1, frames, but at least 2");
        for (int frames : new int[] {Integer.MIN_VALUE, -1, 0, 1, 2}) {
            check.same("misses of 2 pages, frames " + frames, missesAgain(frames, 2), 0);
            // 2 takes the frame of 0; behind it, each page takes the frame of the next one.
            check.same("misses of 3 pages, frames " + frames, missesAgain(frames, 3), 3);
        }
        check.same("misses of 3 pages, frames 3", missesAgain(3, 3), 0);
    }

    private void atMostSixteenFrames() {
        check.part("promise 1, frames, and at most 16");
        check.same("misses of 16 pages, frames 15", missesAgain(15, 16), 16);
        for (int frames : new int[] {16, 17, 18, Integer.MAX_VALUE}) {
            SelfArranger x = table(frames, 64);
            x.ask();
            x.ask();
            check.same("misses of 16 pages, frames " + frames, x.last(3), 0);
            // All marks go, and the leaf of an index takes the frame of heap page 0.
            ready(x, 0);
            deleteRows(x, 1, 64);
            x.where(0, 1, -1, 0);
            x.ask();
            lastIs(x, 0, 1, 1);
            x.where(0, 1, 0, 0);
            x.ask();
            lastIs(x, 0, 2, 1);
        }
    }

    private void firstState() {
        check.part("promise 1, a new object");
        SelfArranger x = new SelfArranger(4);
        check.same("ask() without rows", x.ask(), 0);
        lastIs(x, NONE, 0, 0);
        check.same("shapes(), the first one's", x.shapes(), 1);
        check.same("no conditions", x.shape(0, 1), 0);
        for (int r = 0; r < 64; r++) {
            x.insert(64 - r, 64 - r, 64 - r);
        }
        check.same("no limit: 64 rows", x.ask(), 64);
        for (int k = 0; k < 64; k++) {
            check.same("no order: by numbers", x.answer(k), k);
        }
        for (int index = 0; index < 9; index++) {
            check.same("none", x.index(index, 0), 0);
        }
    }

    /** 48 rows: an index has 12 leaves, 3 nodes and a root, 16 pages; 49 rows: 18. 17 to 20 rows: 8, two of them 16. */
    private void firstBudgetIsSixteen() {
        check.part("promise 1, a budget of 16 pages");
        int[][] rowsAndSet = {{17, 0b11}, {20, 0b11}, {21, 0b1}, {45, 0b1}, {48, 0b1}, {49, 0}};
        for (int[] pair : rowsAndSet) {
            SelfArranger x = table(4, pair[0]);
            askForEachColumn(x);
            check.same("choose() of " + pair[0] + " rows", x.choose(), pair[1]);
        }
    }

    private void insertedValues() {
        check.part("promise 2, a value is not from -1000 to 1000");
        between("insert, a", -1000, 1000, ARGUMENT, WITH_ROOM, (x, v) -> x.insert(v, 0, 0));
        between("insert, b", -1000, 1000, ARGUMENT, WITH_ROOM, (x, v) -> x.insert(0, v, 0));
        between("insert, c", -1000, 1000, ARGUMENT, WITH_ROOM, (x, v) -> x.insert(0, 0, v));
        SelfArranger x = new SelfArranger(4);
        check.refused("insert", ARGUMENT, () -> x.insert(-1001, 1001, 0));
        check.same("a refused row has no number", x.insert(-1000, 1000, -999), 0);
        check.same("value(0, 0)", x.value(0, 0), -1000);
        check.same("value(0, 1)", x.value(0, 1), 1000);
        check.same("value(0, 2)", x.value(0, 2), -999);
    }

    private void insertOfRow64() {
        check.part("promise 2, when there were 64");
        SelfArranger x = table(4, 63);
        check.same("insert of the last one", x.insert(0, 0, 0), 63);
        check.refused("insert of one more", FULL, () -> x.insert(0, 0, 0));
        check.same("changes()", x.changes(), 64 * 4);
        check.same("cost(NONE)", x.cost(NONE), 16);
        x.delete(5);
        check.refused("insert behind a deletion", FULL, () -> x.insert(0, 0, 0));
        check.refused("insert(0, 0, 0)", FULL, State.FULL, y -> y.insert(0, 0, 0));
        check.refused("insert(-1000, 1000, 0)", FULL, State.FULL, y -> y.insert(-1000, 1000, 0));
    }

    private void insertNamesTheValueFirst() {
        check.part("promise 2, the one that it names first");
        check.refused("insert(1001, 0, 0)", ARGUMENT, State.FULL, x -> x.insert(1001, 0, 0));
        check.refused("insert(0, -1001, 0)", ARGUMENT, State.FULL, x -> x.insert(0, -1001, 0));
        check.refused("insert(0, 0, 1001)", ARGUMENT, State.FULL, x -> x.insert(0, 0, 1001));
    }

    private void deletedRowIsThere() {
        check.part("promise 3, when it is not there");
        onlyRowsThatAreThere("delete", SelfArranger::delete);
        SelfArranger x = table(4, 64);
        for (int r : new int[] {0, 63, 31}) {
            x.delete(r);
            check.refused("delete again", OUTSIDE, () -> x.delete(r));
            check.refused("value", OUTSIDE, () -> x.value(r, 0));
        }
        check.same("changes()", x.changes(), 67 * 4);
        check.same("ask()", x.ask(), 61);
    }

    private void changedRowIsThere() {
        check.part("promise 4, when the row is not there");
        onlyRowsThatAreThere("change", (x, row) -> x.change(row, 1, 7));
    }

    private void changedColumn() {
        check.part("promise 4, or there is no such column");
        between("change, column", 0, 2, OUTSIDE, WITH_ROWS, (x, column) -> x.change(2, column, 7));
        SelfArranger x = table(4, 2);
        x.change(1, 0, 10);
        x.change(1, 2, 12);
        check.same("value(1, 0)", x.value(1, 0), 10);
        check.same("value(1, 1)", x.value(1, 1), 1);
        check.same("value(1, 2)", x.value(1, 2), 12);
        check.same("value(0, 2)", x.value(0, 2), 0);
    }

    private void changedValue() {
        check.part("promise 4, when the value is not from -1000 to 1000");
        for (int c = 0; c < 3; c++) {
            int column = c;
            between("change, v", -1000, 1000, ARGUMENT, WITH_ROWS, (x, v) -> x.change(2, column, v));
        }
        SelfArranger x = table(4, 1);
        x.change(0, 0, -1000);
        check.same("value(0, 0)", x.value(0, 0), -1000);
        x.change(0, 0, 1000);
        check.same("value(0, 0)", x.value(0, 0), 1000);
    }

    private void changeToTheSameValue() {
        check.part("promise 4, perhaps the same one");
        SelfArranger x = table(4, 3);
        x.build(0);
        x.work(1);
        x.change(0, 0, 0);
        check.same("value(0, 0)", x.value(0, 0), 0);
        check.same("changes()", x.changes(), 16);
        check.same("it is on the side list", x.work(1), 2);
    }

    private void changeNamesTheRowFirst() {
        check.part("promise 4, the one that it names first");
        check.refused("change(0, 0, 1001)", OUTSIDE, State.NEW, x -> x.change(0, 0, 1001));
        for (State state : WITH_ROWS) {
            check.refused("change(-1, 0, 1001)", OUTSIDE, state, x -> x.change(-1, 0, 1001));
            check.refused("change(2, 3, 1001)", OUTSIDE, state, x -> x.change(2, 3, 1001));
            check.refused("change(2, -1, -1001)", OUTSIDE, state, x -> x.change(2, -1, -1001));
            check.refused("change(64, 3, -1001)", OUTSIDE, state, x -> x.change(64, 3, -1001));
        }
    }

    private void rowOfAValueIsThere() {
        check.part("promise 5, when the row is not there");
        onlyRowsThatAreThere("value", (x, row) -> x.value(row, 1));
    }

    private void columnOfAValue() {
        check.part("promise 5, or there is no such column");
        between("value, column", 0, 2, OUTSIDE, WITH_ROWS, (x, column) -> x.value(2, column));
        check.refused("value(4, 3)", OUTSIDE, State.IN_USE, x -> x.value(4, 3));
    }

    private void whereColumn() {
        check.part("promise 6, when there is no such column");
        for (int k = 0; k < 3; k++) {
            int kind = k;
            between("where, column", 0, 2, OUTSIDE, ALL, (x, column) -> x.where(column, kind, 0, 0));
        }
    }

    private void whereKind() {
        check.part("promise 6, for another kind");
        for (int c = 0; c < 3; c++) {
            int column = c;
            between("where, kind", 0, 2, ARGUMENT, ALL, (x, kind) -> x.where(column, kind, 1, 1));
        }
        SelfArranger x = table(4, 8);
        x.where(0, 2, 3, 4);
        answerIs(x, 3, 4);
        x.where(0, 1, 3, 4);
        answerIs(x, 3);
        x.where(0, 1, 4, 3);
        answerIs(x, 4);
        x.where(0, 0, 3, 4);
        answerIs(x, 0, 1, 2, 3, 4, 5, 6, 7);
    }

    /** The document bounds the values of rows alone. */
    private void whereFromAndToAreFree() {
        check.part("promise 6, from and to");
        int[] odd = {Integer.MIN_VALUE, -1001, 1001, Integer.MAX_VALUE};
        SelfArranger x = new SelfArranger(4);
        x.insert(-1000, 0, 0);
        x.insert(1000, 0, 0);
        for (int v : odd) {
            x.where(0, 1, v, v);
            answerIs(x);
        }
        x.where(0, 2, Integer.MIN_VALUE, Integer.MAX_VALUE);
        answerIs(x, 0, 1);
        x.where(0, 2, -1000, 1000);
        answerIs(x, 0, 1);
        x.where(0, 2, -999, 1000);
        answerIs(x, 1);
        x.where(0, 2, -1000, 999);
        answerIs(x, 0);
        x.where(0, 2, 1000, Integer.MAX_VALUE);
        answerIs(x, 1);
        x.where(0, 2, Integer.MIN_VALUE, -1000);
        answerIs(x, 0);
    }

    private void whereFromAboveTo() {
        check.part("promise 6, from may be above to: nothing fits");
        SelfArranger x = table(4, 8);
        x.where(0, 2, 3, 3);
        answerIs(x, 3);
        x.where(0, 2, 4, 3);
        answerIs(x);
        check.same("it is a condition nevertheless", x.cost(0), 1 + 1);
        x.where(0, 2, Integer.MAX_VALUE, Integer.MIN_VALUE);
        answerIs(x);
        check.same("shape", x.shape(0, 1), 2);
    }

    private void whereNamesTheColumnFirst() {
        check.part("promise 6, the one that it names first");
        for (State state : ALL) {
            check.refused("where(3, 3, 0, 0)", OUTSIDE, state, x -> x.where(3, 3, 0, 0));
            check.refused("where(-1, -1, 0, 0)", OUTSIDE, state, x -> x.where(-1, -1, 0, 0));
        }
    }

    private void orderColumn() {
        check.part("promise 7, when there is no such column (NONE: by numbers)");
        between("order, column", NONE, 2, OUTSIDE, ALL, (x, column) -> x.order(column, 3));
        SelfArranger x = new SelfArranger(4);
        x.insert(3, 2, 2);
        x.insert(1, 3, 2);
        x.insert(2, 1, 1);
        x.order(0, 64);
        answerIs(x, 1, 2, 0);
        x.order(1, 64);
        answerIs(x, 2, 0, 1);
        x.order(2, 64);
        answerIs(x, 2, 0, 1);
        x.order(NONE, 64);
        answerIs(x, 0, 1, 2);
    }

    private void orderLimit() {
        check.part("promise 7, when the limit is not 0 .. 64");
        between("order, limit", 0, 64, ARGUMENT, ALL, (x, limit) -> x.order(2, limit));
        between("order by numbers, limit", 0, 64, ARGUMENT, ALL, (x, limit) -> x.order(NONE, limit));
    }

    private void orderNamesTheColumnFirst() {
        check.part("promise 7, the one that it names first");
        for (State state : ALL) {
            check.refused("order(3, 65)", OUTSIDE, state, x -> x.order(3, 65));
            check.refused("order(-2, -1)", OUTSIDE, state, x -> x.order(-2, -1));
        }
    }

    private void askAtTheLimit() {
        check.part("promise 8, no more than the limit");
        SelfArranger x = table(4, 64);
        int[][] limitAndCount = {{0, 0}, {1, 1}, {63, 63}, {64, 64}};
        for (int[] pair : limitAndCount) {
            x.order(2, pair[0]);
            check.same("ask() with limit " + pair[0], x.ask(), pair[1]);
        }
        x.where(0, 2, 10, 12);
        x.order(2, 4);
        answerIs(x, 12, 11, 10);
        x.order(2, 3);
        answerIs(x, 12, 11, 10);
        x.order(2, 2);
        answerIs(x, 12, 11);
        x.order(2, 0);
        answerIs(x);
        check.same("the limit saves no page of the heap", x.last(2), 16);
        check.same("a query of limit 0 is noted, too", x.shape(1, 0), 4 * 16);
        ready(x, 0);
        x.ask();
        check.same("the limit saves no page of an index", x.last(2), 2 + 2 + 3);
    }

    private void answerHasSuchARow() {
        check.part("promise 9, when it has none");
        check.refused("answer(-1)", OUTSIDE, State.NEW, x -> x.answer(-1));
        check.refused("answer(0) before any", OUTSIDE, State.NEW, x -> x.answer(0));
        between("answer", 0, 1, OUTSIDE, new State[] {State.IN_USE, State.BUILDING}, SelfArranger::answer);
        between("answer", 0, 0, OUTSIDE, new State[] {State.FULL}, SelfArranger::answer);
        SelfArranger x = table(4, 64);
        x.ask();
        check.same("answer(63)", x.answer(63), 63);
        check.refused("answer(64)", OUTSIDE, () -> x.answer(64));
        x.order(NONE, 0);
        x.ask();
        check.refused("answer(0) of an empty answer", OUTSIDE, () -> x.answer(0));
    }

    private void answerAsItWasThen() {
        check.part("promise 9, as it was then");
        SelfArranger x = table(4, 3);
        x.where(0, 2, 1, 2);
        x.order(2, 2);
        x.ask();
        x.delete(2);
        x.change(1, 0, 50);
        x.insert(1, 1, 1);
        x.where(0, 0, 0, 0);
        x.order(NONE, 1);
        check.same("answer(0)", x.answer(0), 2);
        check.same("answer(1)", x.answer(1), 1);
        check.refused("answer(2)", OUTSIDE, () -> x.answer(2));
    }

    private void lastBeforeAny() {
        check.part("promise 10, 0 before any (way: NONE)");
        SelfArranger x = table(4, 20);
        ready(x, 0);
        x.where(0, 1, 5, 0);
        x.cost(0);
        x.choose();
        lastIs(x, NONE, 0, 0);
        x.ask();
        lastIs(x, 0, 4, 4);
    }

    private void lastWhat() {
        check.part("promise 10, for another what");
        between("last", 0, 3, OUTSIDE, ALL, SelfArranger::last);
    }

    private void costIndex() {
        check.part("promise 11, when there is no such index (or the heap, NONE)");
        between("cost", NONE, 8, OUTSIDE, ALL, SelfArranger::cost);
        SelfArranger x = table(4, 64);
        x.where(2, 1, -3, 0);
        check.same("cost(NONE)", x.cost(NONE), 16);
        check.same("cost(8)", x.cost(8), 4);
    }

    private void costOfNoWay() {
        check.part("promise 11, NONE if it is no way for it");
        int[] first = {0, 1, 2, 0, 0, 1, 1, 2, 2};
        SelfArranger x = table(4, 64);
        for (int column = 0; column < 3; column++) {
            for (int kind = 2; kind >= 0; kind--) {
                x.where(column, kind, -900, -900);
                for (int index = 0; index < 9; index++) {
                    int due = first[index] == column && kind > 0 ? 3 : NONE;
                    check.same("cost(" + index + ")", x.cost(index), due);
                }
            }
        }
    }

    private void indexNumber() {
        check.part("promise 12, when there is no such index");
        for (int w = 0; w < 4; w++) {
            int what = w;
            between("index", 0, 8, OUTSIDE, ALL, (x, index) -> x.index(index, what));
        }
    }

    private void indexWhat() {
        check.part("promise 12, or what");
        for (int i = 0; i < 9; i += 8) {
            int index = i;
            between("index, what", 0, 3, OUTSIDE, ALL, (x, what) -> x.index(index, what));
        }
        check.refused("index(9, 4)", OUTSIDE, State.IN_USE, x -> x.index(9, 4));
    }

    private void firstEntryWithoutAny() {
        check.part("promise 12, NONE without any");
        SelfArranger x = new SelfArranger(4);
        for (int index = 0; index < 9; index++) {
            check.same("index(" + index + ", 3) before any row", x.index(index, 3), NONE);
        }
        x.insert(0, 0, 0);
        x.insert(-1, -1, -1);
        for (int index = 0; index < 9; index++) {
            check.same("index(" + index + ", 3)", x.index(index, 3), 1);
        }
        x.delete(1);
        check.same("the one that is left", x.index(8, 3), 0);
        x.delete(0);
        for (int index = 0; index < 9; index++) {
            check.same("index(" + index + ", 3) behind the last row", x.index(index, 3), NONE);
        }
    }

    private void shapesFromNoneToEight() {
        check.part("promise 13");
        check.same("shapes() of a new one", State.NEW.make().shapes(), 0);
        check.same("shapes()", State.IN_USE.make().shapes(), 3);
        SelfArranger x = State.FULL.make();
        check.same("shapes()", x.shapes(), 8);
        shapeOf(x, 0);
        x.ask();
        check.same("shapes() behind a ninth", x.shapes(), 8);
    }

    private void shapeNumber() {
        check.part("promise 14, when there is none");
        for (int w = 0; w < 3; w++) {
            int what = w;
            check.refused("shape(0, " + w + ")", OUTSIDE, State.NEW, x -> x.shape(0, what));
            between("shape", 0, 2, OUTSIDE, new State[] {State.IN_USE, State.BUILDING}, (x, k) -> x.shape(k, what));
            between("shape", 0, 7, OUTSIDE, new State[] {State.FULL}, (x, k) -> x.shape(k, what));
        }
        SelfArranger x = new SelfArranger(4);
        x.ask();
        check.same("shape(0, 0)", x.shape(0, 0), 16);
        for (int k = 0; k < 8; k++) {
            x.period();
        }
        check.refused("shape(0, 0) of one that went", OUTSIDE, () -> x.shape(0, 0));
    }

    private void shapeWhat() {
        check.part("promise 14, or for another what");
        between("shape, what", 0, 2, OUTSIDE, WITH_ROWS, (x, what) -> x.shape(2, what));
        check.refused("shape(8, 3)", OUTSIDE, State.FULL, x -> x.shape(8, 3));
        SelfArranger x = new SelfArranger(4);
        shapeOf(x, 26);
        x.ask();
        shapeOf(x, 0);
        x.ask();
        check.same("the most that kinds can make", x.shape(0, 1), 26);
        check.same("and the least", x.shape(1, 1), 0);
    }

    private void changesFromNone() {
        check.part("promise 15");
        SelfArranger x = new SelfArranger(4);
        check.same("changes() of a new one", x.changes(), 0);
        x.insert(0, 0, 0);
        check.same("changes()", x.changes(), 4);
        check.refused("delete(1)", OUTSIDE, () -> x.delete(1));
        check.refused("change(0, 0, 1001)", ARGUMENT, () -> x.change(0, 0, 1001));
        check.refused("insert(1001, 0, 0)", ARGUMENT, () -> x.insert(1001, 0, 0));
        check.same("changes() behind refused ones", x.changes(), 4);
    }

    private void periodOfNothing() {
        check.part("promise 16, how many shapes are left");
        SelfArranger x = new SelfArranger(4);
        check.same("period() of an empty ledger", x.period(), 0);
        check.same("changes()", x.changes(), 0);
        check.same("period() of a full ledger", State.FULL.make().period(), 8);
    }

    private void budgetPages() {
        check.part("promise 17, when that is not 0 .. 200");
        between("budget", 0, 200, ARGUMENT, ALL, SelfArranger::budget);
        SelfArranger x = table(4, 64);
        askForEachColumn(x);
        x.budget(0);
        check.same("choose() with 0", x.choose(), 0);
        x.budget(200);
        check.same("choose() with 200", x.choose(), 0b111);
        check.refused("budget(-1)", ARGUMENT, () -> x.budget(-1));
        check.refused("budget(201)", ARGUMENT, () -> x.budget(201));
        check.same("choose() behind refused ones", x.choose(), 0b111);
    }

    private void chooseWithoutShapes() {
        check.part("promise 18");
        SelfArranger x = new SelfArranger(4);
        x.budget(200);
        check.same("choose() of a new one", x.choose(), 0);
        x.insert(0, 0, 0);
        check.same("choose() without shapes", x.choose(), 0);
        fadeChanges(x);
        check.same("choose() without shapes or changes", x.choose(), 0);
    }

    private void costOfSet() {
        check.part("promise 19, when it is not 0 .. 511");
        between("costOf", 0, 511, ARGUMENT, ALL, SelfArranger::costOf);
        SelfArranger x = table(4, 64);
        check.same("costOf(0) without shapes", x.costOf(0), 0);
        check.same("costOf(511) without shapes", x.costOf(511), 9 * 256 * 3);
        check.same("costOf(256)", x.costOf(256), 256 * 3);
        check.same("costOf(511) of a new one", new SelfArranger(4).costOf(511), 0);
        check.same("costOf(1), no level", table(4, 4).costOf(1), 4 * 4);
        check.same("costOf(1), one level", table(4, 5).costOf(1), 5 * 4 * 2);
        deleteRows(x, 0, 64);
        check.same("costOf(1) without entries", x.costOf(1), 2 * 256);
    }

    private void buildIndex() {
        check.part("promise 20, when there is no such index");
        between("build", 0, 8, OUTSIDE, new State[] {State.NEW}, SelfArranger::build);
        for (State state : ALL) {
            for (int index : new int[] {Integer.MIN_VALUE, -1, 9, Integer.MAX_VALUE}) {
                check.refused("build(" + index + ")", OUTSIDE, state, x -> x.build(index));
            }
        }
        check.taken("build(0)", State.FULL, x -> x.build(0));
        check.taken("build(8)", State.IN_USE, x -> x.build(8));
    }

    private void buildWhenItIsNotNone() {
        check.part("promise 20, when it is not none");
        check.refused("build of a ready one", STATE, State.IN_USE, x -> x.build(0));
        check.refused("build of a ready one", STATE, State.IN_USE, x -> x.build(5));
        check.refused("build of a ready one", STATE, State.FULL, x -> x.build(8));
        check.refused("build of a ready one beside another", STATE, State.BUILDING, x -> x.build(0));
        check.refused("build of the building one", STATE, State.BUILDING, x -> x.build(3));
    }

    private void buildBesideAnother() {
        check.part("promise 20, or another one is building");
        for (int index : new int[] {1, 2, 4, 6, 7, 8}) {
            check.refused("build(" + index + ")", STATE, State.BUILDING, x -> x.build(index));
        }
        check.refused("build(9), which is named first", OUTSIDE, State.BUILDING, x -> x.build(9));
    }

    private void workNumber() {
        check.part("promise 21, when n is not 1 .. 64");
        between("work", 1, 64, ARGUMENT, new State[] {State.BUILDING}, SelfArranger::work);
        SelfArranger x = table(4, 64);
        x.build(0);
        check.same("work(1)", x.work(1), 63);
        x.change(0, 0, 0);
        check.same("work(64) of 63 rows and a change", x.work(64), 0);
        check.same("index(0, 0)", x.index(0, 0), 2);
    }

    private void workWhenNoneIsBuilding() {
        check.part("promise 21, when none is building");
        for (State state : NOT_BUILDING) {
            check.refused("work(1)", STATE, state, x -> x.work(1));
            check.refused("work(64)", STATE, state, x -> x.work(64));
        }
        SelfArranger x = table(4, 4);
        x.build(0);
        x.drop(0);
        check.refused("work(1) behind a drop", STATE, () -> x.work(1));
    }

    private void workNamesTheNumberFirst() {
        check.part("promise 21, the one that it names first");
        for (State state : NOT_BUILDING) {
            check.refused("work(0)", ARGUMENT, state, x -> x.work(0));
            check.refused("work(65)", ARGUMENT, state, x -> x.work(65));
        }
    }

    /** 15 rows and 2 changes are left. */
    private void workWhenItIsReady() {
        check.part("promise 21, 0 when it is ready");
        SelfArranger x = State.BUILDING.make();
        check.same("work(16)", x.work(16), 1);
        check.same("it is building still", x.index(3, 0), 1);
        check.same("work(1)", x.work(1), 0);
        check.same("it is ready", x.index(3, 0), 2);
        check.refused("work(1)", STATE, () -> x.work(1));
        SelfArranger y = State.BUILDING.make();
        check.same("work(17) at once", y.work(17), 0);
        check.same("it is ready", y.index(3, 0), 2);
        SelfArranger z = State.BUILDING.make();
        check.same("work(18), more than is left", z.work(18), 0);
        check.same("it is ready", z.index(3, 0), 2);
    }

    private void dropIndex() {
        check.part("promise 22, when there is no such index");
        between("drop", 0, 8, OUTSIDE, ALL, SelfArranger::drop);
    }

    private void dropWhetherItWasNot() {
        check.part("promise 22, whether it was not");
        SelfArranger x = State.BUILDING.make();
        int[] due = {1, 0, 0, 1, 0, 1, 0, 0, 0};
        for (int index = 0; index < 9; index++) {
            check.same("drop(" + index + ")", x.drop(index) ? 1 : 0, due[index]);
            check.same("index(" + index + ", 0)", x.index(index, 0), 0);
            check.same("drop(" + index + ") again", x.drop(index) ? 1 : 0, 0);
        }
        for (State state : ALL) {
            check.changesNothing("drop(7) of none", state, y -> y.drop(7));
        }
    }

    private void callsThatOnlyTell() {
        check.part("calls that only tell");
        for (State state : ALL) {
            check.changesNothing("cost of the heap", state, x -> x.cost(NONE));
            check.changesNothing("cost of an index", state, x -> x.cost(0));
            for (int w = 0; w < 4; w++) {
                int what = w;
                check.changesNothing("index, " + what, state, x -> x.index(5, what));
            }
            check.changesNothing("last", state, x -> x.last(3));
            check.changesNothing("shapes", state, SelfArranger::shapes);
            check.changesNothing("changes", state, SelfArranger::changes);
            check.changesNothing("choose", state, SelfArranger::choose);
            check.changesNothing("costOf", state, x -> x.costOf(511));
        }
        for (State state : WITH_ROWS) {
            check.changesNothing("value", state, x -> x.value(2, 2));
            check.changesNothing("answer", state, x -> x.answer(0));
            check.changesNothing("shape", state, x -> x.shape(2, 2));
        }
    }
}
