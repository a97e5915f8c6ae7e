/** What the tests with answers worked out by hand share. */
abstract class Trial {
    static final int NONE = SelfArranger.NONE;
    static final Class<IndexOutOfBoundsException> OUTSIDE = IndexOutOfBoundsException.class;
    static final Class<IllegalArgumentException> ARGUMENT = IllegalArgumentException.class;
    static final Class<IllegalStateException> STATE = IllegalStateException.class;
    static final Class<UnsupportedOperationException> FULL = UnsupportedOperationException.class;

    final Check check = new Check();

    /** Row r has the values r, r % 4 and -r. */
    static SelfArranger table(int frames, int rows) {
        SelfArranger x = new SelfArranger(frames);
        for (int r = 0; r < rows; r++) {
            x.insert(r, r % 4, -r);
        }
        return x;
    }

    /** The rows from .. below go. */
    static void deleteRows(SelfArranger x, int from, int below) {
        for (int r = from; r < below; r++) {
            x.delete(r);
        }
    }

    static void ready(SelfArranger x, int index) {
        x.build(index);
        if (x.index(index, 0) == 1) {
            x.work(64);
        }
    }

    /** The query's conditions have the kinds that make the code: 1, or from 1 to 1. */
    static void shapeOf(SelfArranger x, int code) {
        x.where(0, code % 3, 1, 1);
        x.where(1, code / 3 % 3, 1, 1);
        x.where(2, code / 9, 1, 1);
    }

    static void fadeChanges(SelfArranger x) {
        for (int k = 0; k < 20; k++) {
            x.period();
        }
    }

    /** Behind it, the ledger has one shape for each column, that no row fits, and no changes. */
    static void askForEachColumn(SelfArranger x) {
        fadeChanges(x);
        for (int column = 0; column < 3; column++) {
            x.where(0, 0, 0, 0);
            x.where(1, 0, 0, 0);
            x.where(2, 0, 0, 0);
            x.where(column, 1, -500, 0);
            x.ask();
        }
    }

    void lastIs(SelfArranger x, int way, int cost, int misses) {
        check.same("last(0)", x.last(0), way);
        check.same("last(1)", x.last(1), cost);
        check.same("last(2)", x.last(2), cost);
        check.same("last(3)", x.last(3), misses);
    }

    void answerIs(SelfArranger x, int... rows) {
        check.same("ask()", x.ask(), rows.length);
        for (int k = 0; k < rows.length; k++) {
            check.same("answer(" + k + ")", x.answer(k), rows[k]);
        }
        check.refused("answer behind the last row", OUTSIDE, () -> x.answer(rows.length));
    }
}
