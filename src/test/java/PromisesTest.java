/** Each promise of the document by itself, with answers that were worked out by hand. */
public final class PromisesTest extends Trial {
    public static void main(String[] args) {
        PromisesTest test = new PromisesTest();
        test.newObject();
        test.framesOfThePool();
        test.insert();
        test.delete();
        test.change();
        test.value();
        test.where();
        test.order();
        test.ask();
        test.wayOfSeveral();
        test.touchedPages();
        test.leafOfAnEmptyStretch();
        test.handOfThePool();
        test.pagesOutliveTheirIndex();
        test.answer();
        test.last();
        test.cost();
        test.index();
        test.entriesOfAllIndexes();
        test.shapes();
        test.shape();
        test.changes();
        test.period();
        test.budget();
        test.choose();
        test.chooseOfSeveral();
        test.costOf();
        test.build();
        test.work();
        test.sideList();
        test.drop();
        test.check.end();
    }

    private void newObject() {
        check.part("promise 1");
        SelfArranger x = new SelfArranger(4);
        check.refused("value(0, 0)", OUTSIDE, () -> x.value(0, 0));
        for (int index = 0; index < 9; index++) {
            check.same("index(" + index + ", 0)", x.index(index, 0), 0);
            check.same("cost(" + index + ")", x.cost(index), NONE);
        }
        check.same("cost(NONE)", x.cost(NONE), 0);
        check.same("shapes()", x.shapes(), 0);
        check.same("changes()", x.changes(), 0);
        for (int r = 0; r < 64; r++) {
            x.insert(64 - r, 0, 0);
        }
        check.same("ask() without conditions or limit", x.ask(), 64);
        check.same("answer(0) without an order", x.answer(0), 0);
        check.same("answer(63) without an order", x.answer(63), 63);
        firstBudget();
    }

    /** With 13 rows an index has 4 leaves and a node: three of them fit into 16 pages, with 17 rows (8 pages) two. */
    private void firstBudget() {
        SelfArranger x = table(4, 13);
        askForEachColumn(x);
        check.same("choose() of 13 rows", x.choose(), 0b111);
        x.insert(50, 50, 50);
        x.insert(51, 51, 51);
        x.insert(52, 52, 52);
        x.insert(53, 53, 53);
        fadeChanges(x);
        askForEachColumn(x);
        check.same("choose() of 17 rows", x.choose(), 0b011);
    }

    /** On a second way through the heap, a page is missed just if the pool is too small for all. */
    private void framesOfThePool() {
        int[][] framesAndPages = {{Integer.MIN_VALUE, 2}, {1, 2}, {2, 2}, {3, 3}, {15, 15}, {16, 16}};
        for (int[] pair : framesAndPages) {
            SelfArranger fits = table(pair[0], pair[1] * 4);
            fits.ask();
            check.same("misses of the first way", fits.last(3), pair[1]);
            fits.ask();
            check.same("misses of the second way, frames " + pair[0], fits.last(3), 0);
            if (pair[1] < 16) {
                SelfArranger over = table(pair[0], pair[1] * 4 + 1);
                over.ask();
                over.ask();
                check.yes("a page too many is missed, frames " + pair[0], over.last(3) > 0);
            }
        }
        SelfArranger most = table(Integer.MAX_VALUE, 64);
        ready(most, 0);
        most.ask();
        most.ask();
        check.same("misses with the most frames", most.last(3), 0);
        most.where(0, 1, 5, 0);
        most.ask();
        most.where(0, 0, 0, 0);
        most.ask();
        check.yes("there are not more than 16 frames", most.last(3) > 0);
    }

    private void insert() {
        check.part("promise 2");
        SelfArranger x = new SelfArranger(4);
        check.same("insert", x.insert(-1000, 0, 1000), 0);
        check.same("insert", x.insert(1000, -1000, 0), 1);
        check.same("value(0, 0)", x.value(0, 0), -1000);
        check.same("value(0, 1)", x.value(0, 1), 0);
        check.same("value(0, 2)", x.value(0, 2), 1000);
        check.same("value(1, 1)", x.value(1, 1), -1000);
        int[] wrong = {Integer.MIN_VALUE, -1001, 1001, Integer.MAX_VALUE};
        for (int v : wrong) {
            check.refused("insert of a wrong a", ARGUMENT, () -> x.insert(v, 0, 0));
            check.refused("insert of a wrong b", ARGUMENT, () -> x.insert(0, v, 0));
            check.refused("insert of a wrong c", ARGUMENT, () -> x.insert(0, 0, v));
        }
        check.same("changes() behind refused ones", x.changes(), 8);
        x.delete(1);
        for (int r = 2; r < 64; r++) {
            check.same("a number is not used again", x.insert(0, 0, 0), r);
        }
        check.refused("insert of row 64", FULL, () -> x.insert(0, 0, 0));
        check.refused("insert of row 64 with a wrong value", ARGUMENT, () -> x.insert(0, 0, 1001));
        check.same("cost(NONE)", x.cost(NONE), 16);
        check.same("ask()", x.ask(), 63);
    }

    private void delete() {
        check.part("promise 3");
        SelfArranger x = table(4, 5);
        x.delete(4);
        x.delete(0);
        check.refused("delete of one that went", OUTSIDE, () -> x.delete(0));
        check.refused("delete(-1)", OUTSIDE, () -> x.delete(-1));
        check.refused("delete(5)", OUTSIDE, () -> x.delete(5));
        check.refused("delete(64)", OUTSIDE, () -> x.delete(64));
        check.refused("delete(least int)", OUTSIDE, () -> x.delete(Integer.MIN_VALUE));
        check.same("changes()", x.changes(), 28);
        check.same("heap pages stay", x.cost(NONE), 2);
        answerIs(x, 1, 2, 3);
    }

    private void change() {
        check.part("promise 4");
        SelfArranger x = table(4, 3);
        x.change(1, 0, -1000);
        x.change(1, 1, 1000);
        x.change(1, 2, -1);
        check.same("value(1, 0)", x.value(1, 0), -1000);
        check.same("value(1, 1)", x.value(1, 1), 1000);
        check.same("value(1, 2)", x.value(1, 2), -1);
        check.same("changes(), the same value too", x.changes(), 24);
        x.delete(2);
        check.refused("change of a row that went", OUTSIDE, () -> x.change(2, 0, 0));
        check.refused("change(3, ..)", OUTSIDE, () -> x.change(3, 0, 0));
        check.refused("change(-1, ..)", OUTSIDE, () -> x.change(-1, 0, 0));
        check.refused("change(.., -1, ..)", OUTSIDE, () -> x.change(0, -1, 0));
        check.refused("change(.., 3, ..)", OUTSIDE, () -> x.change(0, 3, 0));
        check.refused("change to 1001", ARGUMENT, () -> x.change(0, 0, 1001));
        check.refused("change to -1001", ARGUMENT, () -> x.change(0, 2, -1001));
        check.refused("wrong row and value", OUTSIDE, () -> x.change(2, 0, 1001));
        check.refused("wrong column and value", OUTSIDE, () -> x.change(0, 3, 1001));
        check.same("changes()", x.changes(), 28);
        check.same("value(0, 0)", x.value(0, 0), 0);
    }

    private void value() {
        check.part("promise 5");
        SelfArranger x = table(4, 64);
        check.same("value(63, 0)", x.value(63, 0), 63);
        check.same("value(63, 1)", x.value(63, 1), 3);
        check.same("value(63, 2)", x.value(63, 2), -63);
        x.delete(63);
        check.refused("value of a row that went", OUTSIDE, () -> x.value(63, 0));
        check.refused("value(64, 0)", OUTSIDE, () -> x.value(64, 0));
        check.refused("value(-1, 0)", OUTSIDE, () -> x.value(-1, 0));
        check.refused("value(0, 3)", OUTSIDE, () -> x.value(0, 3));
        check.refused("value(0, -1)", OUTSIDE, () -> x.value(0, -1));
    }

    private void where() {
        check.part("promise 6");
        SelfArranger x = table(4, 8);
        x.where(0, 1, 3, -9);
        answerIs(x, 3);
        x.where(0, 2, 3, 5);
        answerIs(x, 3, 4, 5);
        x.where(1, 1, 1, 0);
        answerIs(x, 5);
        x.where(0, 0, 7, 7);
        answerIs(x, 1, 5);
        x.where(2, 2, -4, 0);
        answerIs(x, 1);
        x.where(2, 2, 0, -4);
        answerIs(x);
        x.where(2, 2, Integer.MIN_VALUE, Integer.MAX_VALUE);
        answerIs(x, 1, 5);
        x.where(2, 1, Integer.MAX_VALUE, 0);
        answerIs(x);
        x.where(2, 2, -5, -5);
        answerIs(x, 5);
        check.refused("where(-1, ..)", OUTSIDE, () -> x.where(-1, 0, 0, 0));
        check.refused("where(3, ..)", OUTSIDE, () -> x.where(3, 0, 0, 0));
        check.refused("where(.., -1, ..)", ARGUMENT, () -> x.where(2, -1, 0, 0));
        check.refused("where(.., 3, ..)", ARGUMENT, () -> x.where(2, 3, 0, 0));
        check.refused("wrong column and kind", OUTSIDE, () -> x.where(3, 3, 0, 0));
        answerIs(x, 5);
    }

    private void order() {
        check.part("promise 7");
        SelfArranger x = table(4, 6);
        x.order(2, 64);
        answerIs(x, 5, 4, 3, 2, 1, 0);
        x.order(1, 64);
        answerIs(x, 0, 4, 1, 5, 2, 3);
        x.order(0, 6);
        answerIs(x, 0, 1, 2, 3, 4, 5);
        x.order(2, 2);
        answerIs(x, 5, 4);
        x.order(2, 0);
        answerIs(x);
        x.order(NONE, 3);
        answerIs(x, 0, 1, 2);
        check.refused("order(-2, ..)", OUTSIDE, () -> x.order(-2, 1));
        check.refused("order(3, ..)", OUTSIDE, () -> x.order(3, 1));
        check.refused("order(.., -1)", ARGUMENT, () -> x.order(2, -1));
        check.refused("order(.., 65)", ARGUMENT, () -> x.order(2, 65));
        check.refused("wrong column and limit", OUTSIDE, () -> x.order(3, 65));
        answerIs(x, 0, 1, 2);
    }

    private void ask() {
        check.part("promise 8");
        SelfArranger x = new SelfArranger(4);
        answerIs(x);
        x.insert(5, 1, 0);
        x.insert(5, 0, 0);
        x.insert(4, 0, 0);
        x.order(0, 64);
        answerIs(x, 2, 0, 1);
        x.delete(0);
        answerIs(x, 2, 1);
        x.change(1, 0, 3);
        answerIs(x, 1, 2);
    }

    /** Of 20 rows the heap has 5 pages; a single row costs 2 levels, a leaf and an entry. */
    private void wayOfSeveral() {
        check.part("promise 8, the way");
        SelfArranger x = table(16, 20);
        x.where(0, 1, 7, 0);
        x.where(2, 1, -7, 0);
        x.ask();
        lastIs(x, NONE, 5, 5);
        ready(x, 8);
        x.ask();
        lastIs(x, 8, 4, 3);
        ready(x, 4);
        x.ask();
        check.same("the least index of several", x.last(0), 4);
        x.build(0);
        x.work(19);
        x.ask();
        check.same("a building index is no way", x.last(0), 4);
        x.work(1);
        x.ask();
        check.same("the least index of several", x.last(0), 0);
        x.where(0, 2, 5, 6);
        x.where(2, 0, 0, 0);
        x.ask();
        check.same("the heap before an index of the same cost", x.last(0), NONE);
        check.same("the index's cost", x.cost(0), 5);
    }

    /** Index 0 on 64 rows: the rows 6 .. 9 lie in the leaves 1 and 2, below the nodes 0, on the heap pages 1 and 2. */
    private void touchedPages() {
        check.part("promise 8, pages");
        SelfArranger x = table(16, 64);
        ready(x, 0);
        x.where(0, 2, 6, 9);
        x.ask();
        lastIs(x, 0, 8, 6);
        x.ask();
        lastIs(x, 0, 8, 0);
        x.where(0, 2, 4, 6);
        x.ask();
        lastIs(x, 0, 6, 0);
        x.where(0, 2, 8, 9);
        x.ask();
        lastIs(x, 0, 5, 0);
        x.where(0, 2, 19, 20);
        x.ask();
        lastIs(x, 0, 6, 5);
        pagesOfTheEnds();
        entriesByBothColumns();
    }

    /** The last row lies in leaf 15 below node 3, the first one in leaf 0 below node 0; only the root is both's. */
    private void pagesOfTheEnds() {
        SelfArranger x = table(16, 64);
        ready(x, 0);
        askFor(x, 63, 4);
        askFor(x, 0, 3);
        askFor(x, 63, 0);
    }

    /** The rows 0, 16, 32, 48 in this order by their numbers, but the other way round by the second column. */
    private void entriesByBothColumns() {
        SelfArranger x = new SelfArranger(4);
        for (int r = 0; r < 64; r++) {
            x.insert(r % 16 == 0 ? 1 : 2, -r, 0);
        }
        ready(x, 3);
        x.where(0, 1, 1, 0);
        x.ask();
        lastIs(x, 3, 7, 7);
        // The heap page of row 0 was the last one touched: it is still there behind root, node and leaf.
        x.where(1, 1, 0, 0);
        x.ask();
        lastIs(x, 3, 4, 3);
    }

    private void leafOfAnEmptyStretch() {
        check.part("promise 8, an empty stretch");
        SelfArranger x = new SelfArranger(16);
        for (int r = 0; r < 16; r++) {
            x.insert(r < 8 ? 0 : 10, r * 2, 0);
        }
        ready(x, 3);
        x.where(0, 1, 0, 0);
        x.where(1, 1, 3, 0);
        x.ask();
        lastIs(x, 3, 2, 2);
        // Before entry 4, so leaf 1: a new page below the same node.
        x.where(1, 1, 7, 0);
        x.ask();
        lastIs(x, 3, 2, 1);
        // Behind all with a first value of 0: the first one not before it is entry 8, on leaf 2.
        x.where(1, 1, 999, 0);
        x.ask();
        lastIs(x, 3, 2, 1);
        // Behind all: the last leaf.
        x.where(0, 1, 11, 0);
        x.ask();
        lastIs(x, 3, 2, 1);
        // A second condition that does not count: 5 .. 4 begins at entry 8 by the first column alone.
        x.where(0, 2, 5, 4);
        x.where(1, 1, -999, 0);
        x.ask();
        lastIs(x, 3, 2, 0);
        x.where(0, 2, 10, 5);
        x.where(1, 2, 999, 0);
        x.ask();
        lastIs(x, 3, 2, 0);
        // Nothing in the index at all: its one leaf, without a node.
        for (int r = 0; r < 16; r++) {
            x.delete(r);
        }
        x.ask();
        lastIs(x, 3, 1, 0);
    }

    /** Three frames and pages 0 .. 3 of the heap: all marks go before page 3 takes the frame of page 0. */
    private void handOfThePool() {
        check.part("promise 8, the pool");
        SelfArranger x = table(3, 12);
        x.ask();
        lastIs(x, NONE, 3, 3);
        x.insert(12, 0, 0);
        // 0, 1, 2 are there; 3 takes the frame of 0, and only that frame is marked, the hand is at the one of 1.
        x.ask();
        lastIs(x, NONE, 4, 1);
        // 0 takes the frame of 1; 1 that of 2; 2, all being marked, that of 3; 3 that of 0.
        x.ask();
        lastIs(x, NONE, 4, 4);
        markSavesAPage();
    }

    /** Six frames on 64 rows: a value alone touches root, node, leaf and heap page. */
    private void markSavesAPage() {
        SelfArranger x = table(6, 4);
        // Heap 0 takes frame 0.
        x.ask();
        for (int r = 4; r < 64; r++) {
            x.insert(r, 0, 0);
        }
        ready(x, 0);
        // Root, node 0 and leaf 0 take the frames 1 .. 3; heap 0 is there.
        askFor(x, 0, 3);
        // Node 1 and leaf 4 take the frames 4 and 5; all are marked: all marks go, heap 4 takes frame 0.
        askFor(x, 16, 3);
        // The root is marked again and so is passed over: node 2, leaf 8 and heap 8 take the frames 2 .. 4.
        askFor(x, 32, 3);
        askFor(x, 32, 0);
        // Node 3 takes frame 5; all are marked: leaf 12 and heap 12 take the frames 0 and 1, where the root was.
        askFor(x, 48, 3);
        // The hand is at frame 2: root, node 2, leaf 8 and heap 8 each take the frame of the next one.
        askFor(x, 32, 4);
    }

    private void askFor(SelfArranger x, int v, int misses) {
        x.where(0, 1, v, 0);
        x.ask();
        lastIs(x, 0, 4, misses);
    }

    private void pagesOutliveTheirIndex() {
        check.part("promise 8, a page is known by what it is of");
        SelfArranger x = table(16, 20);
        ready(x, 0);
        x.where(0, 1, 3, 0);
        x.ask();
        lastIs(x, 0, 4, 4);
        x.drop(0);
        ready(x, 0);
        x.ask();
        lastIs(x, 0, 4, 0);
        x.drop(0);
        ready(x, 3);
        x.ask();
        lastIs(x, 3, 4, 3);
    }

    private void answer() {
        check.part("promise 9");
        SelfArranger x = table(4, 3);
        check.refused("answer(0) before any asking", OUTSIDE, () -> x.answer(0));
        x.order(2, 64);
        check.same("ask()", x.ask(), 3);
        x.delete(2);
        x.change(1, 2, 9);
        x.order(0, 1);
        check.same("answer(0) as it was", x.answer(0), 2);
        check.same("answer(1) as it was", x.answer(1), 1);
        check.same("answer(2) as it was", x.answer(2), 0);
        check.refused("answer(3)", OUTSIDE, () -> x.answer(3));
        check.refused("answer(-1)", OUTSIDE, () -> x.answer(-1));
        check.refused("answer(64)", OUTSIDE, () -> x.answer(64));
        answerIs(x, 0);
    }

    private void last() {
        check.part("promise 10");
        SelfArranger x = table(2, 20);
        lastIs(x, NONE, 0, 0);
        check.refused("last(-1)", OUTSIDE, () -> x.last(-1));
        check.refused("last(4)", OUTSIDE, () -> x.last(4));
        x.ask();
        ready(x, 0);
        x.where(0, 1, 5, 0);
        x.insert(1, 1, 1);
        lastIs(x, NONE, 5, 5);
        x.ask();
        lastIs(x, 0, 4, 4);
        x.drop(0);
        lastIs(x, 0, 4, 4);
    }

    private void cost() {
        check.part("promise 11");
        SelfArranger x = table(4, 17);
        check.same("cost(NONE)", x.cost(NONE), 5);
        check.same("cost(0) without a condition", x.cost(0), NONE);
        x.where(0, 2, 3, 4);
        check.same("leaves of two entries on two leaves", x.cost(0), 2 + 2 + 2);
        check.same("by the first column alone", x.cost(3), 6);
        check.same("the second column does not make it a way", x.cost(5), NONE);
        x.where(0, 2, 4, 7);
        check.same("leaves of four entries on one leaf", x.cost(0), 2 + 1 + 4);
        x.where(1, 1, 1, 0);
        check.same("the second column behind from-to", x.cost(3), 7);
        check.same("the second column behind the same", x.cost(5), 2 + 1 + 1);
        check.same("one column", x.cost(1), 2 + 2 + 4);
        check.same("a second column without a condition", x.cost(6), 2 + 2 + 4);
        x.where(0, 2, 4, 3);
        check.same("nothing fits", x.cost(0), 3);
        check.same("nothing fits in the second column", x.cost(5), 3);
        check.same("the heap", x.cost(NONE), 5);
        check.refused("cost(-2)", OUTSIDE, () -> x.cost(-2));
        check.refused("cost(9)", OUTSIDE, () -> x.cost(9));
        check.same("no asking", x.shapes(), 0);
    }

    private void index() {
        check.part("promise 12");
        int[][] rowsHeightSize = {{0, 0, 1}, {1, 0, 1}, {4, 0, 1}, {5, 1, 3}, {8, 1, 3}, {9, 1, 4}, {16, 1, 5},
            {17, 2, 8}, {32, 2, 11}, {33, 2, 13}, {63, 2, 21}, {64, 2, 21}};
        for (int[] due : rowsHeightSize) {
            SelfArranger x = table(4, due[0]);
            check.same("height of " + due[0], x.index(8, 1), due[1]);
            check.same("size of " + due[0], x.index(8, 2), due[2]);
        }
        SelfArranger x = table(4, 5);
        check.same("none", x.index(2, 0), 0);
        x.build(2);
        check.same("building", x.index(2, 0), 1);
        x.work(64);
        check.same("ready", x.index(2, 0), 2);
        x.delete(4);
        check.same("height by rows that are there", x.index(2, 1), 0);
        check.same("first entry as it is now", x.index(2, 3), 3);
        check.refused("index(-1, 0)", OUTSIDE, () -> x.index(-1, 0));
        check.refused("index(9, 0)", OUTSIDE, () -> x.index(9, 0));
        check.refused("index(0, -1)", OUTSIDE, () -> x.index(0, -1));
        check.refused("index(0, 4)", OUTSIDE, () -> x.index(0, 4));
    }

    private void entriesOfAllIndexes() {
        check.part("promise 12, first entries");
        SelfArranger x = new SelfArranger(4);
        for (int index = 0; index < 9; index++) {
            check.same("without entries", x.index(index, 3), NONE);
        }
        x.insert(5, 0, 5);
        x.insert(0, 2, 2);
        x.insert(0, 1, 3);
        x.insert(0, 3, 1);
        x.insert(2, 0, 2);
        x.insert(1, 0, 3);
        x.insert(2, 2, 0);
        x.insert(1, 3, 0);
        x.insert(3, 1, 0);
        x.insert(3, 1, 0);
        int[] due = {1, 0, 6, 2, 3, 5, 4, 7, 8};
        for (int index = 0; index < 9; index++) {
            check.same("index(" + index + ", 3)", x.index(index, 3), due[index]);
        }
        check.same("the last of 64 rows", table(4, 64).index(2, 3), 63);
    }

    private void shapes() {
        check.part("promise 13");
        SelfArranger x = table(4, 4);
        int asked = 0;
        for (int code = 0; code < 27; code++) {
            shapeOf(x, code);
            check.same("shapes() before", x.shapes(), Math.min(asked, 8));
            x.ask();
            asked++;
            check.same("shapes() behind", x.shapes(), Math.min(asked, 8));
        }
        shapeOf(x, 3);
        x.order(1, 5);
        x.ask();
        check.same("order and limit are not of the shape", x.shapes(), 8);
        check.same("a shape that is there grows in a full ledger", x.shape(3, 0), 32);
        check.same("costOf(0) of a full ledger and one heap page", x.costOf(0), 9 * 16);
        check.same("choose() of a full ledger", x.choose(), 0);
    }

    private void shape() {
        check.part("promise 14");
        SelfArranger x = table(4, 64);
        shapeOf(x, 26);
        x.ask();
        x.ask();
        shapeOf(x, 5);
        x.ask();
        check.same("weight", x.shape(0, 0), 32);
        check.same("weight", x.shape(1, 0), 16);
        check.same("kinds", x.shape(0, 1), 26);
        check.same("kinds", x.shape(1, 1), 5);
        check.same("best way", x.shape(1, 2), 16);
        ready(x, 0);
        check.same("best way with a ready index", x.shape(1, 2), 2 + 1 + 1);
        x.drop(0);
        x.build(0);
        x.work(63);
        check.same("best way with a building index", x.shape(1, 2), 16);
        x.work(1);
        x.where(0, 2, 6, 9);
        check.same("kept conditions", x.shape(1, 2), 4);
        x.ask();
        check.same("conditions of before are forgotten", x.shape(1, 2), 8);
        x.change(9, 0, 999);
        check.same("by the rows of now", x.shape(1, 2), 7);
        check.refused("shape(-1, 0)", OUTSIDE, () -> x.shape(-1, 0));
        check.refused("shape(2, 0)", OUTSIDE, () -> x.shape(2, 0));
        check.refused("shape(8, 0)", OUTSIDE, () -> x.shape(8, 0));
        check.refused("shape(0, -1)", OUTSIDE, () -> x.shape(0, -1));
        check.refused("shape(0, 3)", OUTSIDE, () -> x.shape(0, 3));
    }

    private void changes() {
        check.part("promise 15");
        SelfArranger x = new SelfArranger(4);
        check.same("changes()", x.changes(), 0);
        x.insert(1, 1, 1);
        check.same("an insertion", x.changes(), 4);
        x.change(0, 0, 1);
        check.same("a change", x.changes(), 8);
        x.delete(0);
        check.same("a deletion", x.changes(), 12);
        check.refused("delete(0)", OUTSIDE, () -> x.delete(0));
        x.ask();
        check.same("refused calls and queries do not count", x.changes(), 12);
        x.period();
        x.period();
        check.same("rounded down", x.changes(), 6);
    }

    private void period() {
        check.part("promise 16");
        SelfArranger x = new SelfArranger(4);
        check.same("period()", x.period(), 0);
        shapeOf(x, 1);
        x.ask();
        shapeOf(x, 2);
        x.ask();
        x.ask();
        int[] one = {12, 9, 6, 4, 3, 2, 1};
        int[] two = {24, 18, 13, 9, 6, 4, 3};
        for (int k = 0; k < one.length; k++) {
            check.same("period()", x.period(), 2);
            check.same("weight", x.shape(0, 0), one[k]);
            check.same("weight", x.shape(1, 0), two[k]);
        }
        check.same("a shape goes", x.period(), 1);
        check.same("shapes()", x.shapes(), 1);
        check.same("kinds of what is left", x.shape(0, 1), 2);
        check.same("weight of what is left", x.shape(0, 0), 2);
        shapeOf(x, 1);
        x.ask();
        check.same("it comes anew, behind the others", x.shape(1, 1), 1);
        check.same("with a new weight", x.shape(1, 0), 16);
        roomAgain();
    }

    private void roomAgain() {
        SelfArranger x = new SelfArranger(4);
        for (int code = 0; code < 8; code++) {
            shapeOf(x, code);
            x.ask();
            if (code % 2 == 0) {
                x.ask();
            }
        }
        for (int k = 0; k < 8; k++) {
            x.period();
        }
        check.same("shapes()", x.shapes(), 4);
        shapeOf(x, 20);
        x.ask();
        int[] due = {0, 2, 4, 6, 20};
        for (int k = 0; k < due.length; k++) {
            check.same("shape(" + k + ", 1)", x.shape(k, 1), due[k]);
        }
    }

    private void budget() {
        check.part("promise 17");
        SelfArranger x = table(4, 13);
        askForEachColumn(x);
        int[][] pagesAndSet = {{0, 0}, {4, 0}, {5, 1}, {9, 1}, {10, 3}, {14, 3}, {15, 7}, {200, 7}};
        for (int[] pair : pagesAndSet) {
            x.budget(pair[0]);
            check.same("choose() with " + pair[0], x.choose(), pair[1]);
        }
        check.refused("budget(-1)", ARGUMENT, () -> x.budget(-1));
        check.refused("budget(201)", ARGUMENT, () -> x.budget(201));
        check.same("choose() behind refused ones", x.choose(), 7);
    }

    /** One row of each value: a value alone costs 4 on an index and 16 on the heap. */
    private void choose() {
        check.part("promise 18");
        SelfArranger x = table(4, 64);
        x.budget(200);
        check.same("without shapes", x.choose(), 0);
        fadeChanges(x);
        check.same("changes() are faded", x.changes(), 0);
        x.where(0, 1, 5, 0);
        x.ask();
        check.same("one shape: the least of 0, 3 and 4", x.choose(), 1);
        x.where(0, 0, 0, 0);
        x.where(2, 1, -5, 0);
        x.ask();
        check.same("two shapes", x.choose(), 0b101);
        x.budget(41);
        check.same("two shapes, room for one", x.choose(), 0b001);
        x.ask();
        check.same("the heavier shape", x.choose(), 0b100);
        x.budget(200);
        // Each index costs 3 times the weight, each shape gains 12 times its weight of 16 or 32.
        for (int k = 0; k < 15; k++) {
            x.change(0, 0, 0);
        }
        check.same("a gain of 192 for 180", x.choose(), 0b101);
        x.change(0, 0, 0);
        check.same("a gain of 192 for 192: the fewest indexes", x.choose(), 0b100);
        check.same("no index comes by choosing", x.index(2, 0), 0);
        check.same("nothing is noted by choosing", x.shape(1, 0), 32);
    }

    /** An index on two columns can serve two shapes; of sets of one size the least sum is taken. */
    private void chooseOfSeveral() {
        check.part("promise 18, of several");
        SelfArranger x = new SelfArranger(4);
        for (int r = 0; r < 64; r++) {
            x.insert(r % 8, r / 8, 0);
        }
        fadeChanges(x);
        x.budget(200);
        x.where(0, 1, 3, 0);
        x.where(1, 1, 3, 0);
        x.ask();
        check.same("index 3 or 5: the least", x.choose(), 1 << 3);
        x.where(0, 0, 0, 0);
        x.ask();
        check.same("index 5 serves both", x.choose(), 1 << 5);
        x.where(0, 1, 3, 0);
        x.where(1, 0, 0, 0);
        x.ask();
        // 0 and 5 serve as well as 3 and 5, or 1 and 3: the sums are 33, 40 and 10.
        check.same("two of the least sum", x.choose(), 0b1010);
    }

    private void costOf() {
        check.part("promise 19");
        SelfArranger x = table(4, 64);
        check.same("changes()", x.changes(), 256);
        check.same("costOf(0) of nothing", x.costOf(0), 0);
        check.same("costOf of two indexes", x.costOf(0b1001), 2 * 256 * 3);
        x.where(0, 1, 5, 0);
        x.ask();
        x.ask();
        x.where(2, 1, -5, 0);
        x.where(0, 2, 5, 6);
        x.ask();
        check.same("costOf(0)", x.costOf(0), 32 * 16 + 16 * 16);
        check.same("costOf(1)", x.costOf(1), 32 * 4 + 16 * 5 + 768);
        check.same("costOf(4)", x.costOf(4), 32 * 16 + 16 * 4 + 768);
        check.same("costOf(2), no way for either", x.costOf(2), 48 * 16 + 768);
        check.same("costOf(511)", x.costOf(511), 32 * 4 + 16 * 4 + 9 * 768);
        ready(x, 0);
        check.same("ready ones outside the set do not count", x.costOf(0), 768);
        check.refused("costOf(-1)", ARGUMENT, () -> x.costOf(-1));
        check.refused("costOf(512)", ARGUMENT, () -> x.costOf(512));
    }

    private void build() {
        check.part("promise 20");
        SelfArranger x = new SelfArranger(4);
        x.build(0);
        check.same("without rows it is ready at once", x.index(0, 0), 2);
        check.refused("work(1)", STATE, () -> x.work(1));
        x.build(8);
        check.same("another one, too", x.index(8, 0), 2);
        x.insert(1, 1, 1);
        x.delete(0);
        x.build(1);
        check.same("a deleted row is to be handled, too", x.index(1, 0), 1);
        check.refused("build of the one that is building", STATE, () -> x.build(1));
        check.refused("build beside another one", STATE, () -> x.build(2));
        check.refused("build of a ready one beside another one", STATE, () -> x.build(0));
        check.refused("build(-1)", OUTSIDE, () -> x.build(-1));
        check.refused("build(9)", OUTSIDE, () -> x.build(9));
        check.same("index(2, 0)", x.index(2, 0), 0);
        check.same("work(1)", x.work(1), 0);
        check.refused("build of a ready one", STATE, () -> x.build(1));
        check.refused("build(9)", OUTSIDE, () -> x.build(9));
        x.build(2);
        check.same("index(2, 0)", x.index(2, 0), 1);
    }

    private void work() {
        check.part("promise 21");
        SelfArranger x = table(4, 64);
        check.refused("work(1) without one", STATE, () -> x.work(1));
        check.refused("work(0) without one", ARGUMENT, () -> x.work(0));
        x.build(4);
        check.refused("work(0)", ARGUMENT, () -> x.work(0));
        check.refused("work(-1)", ARGUMENT, () -> x.work(-1));
        check.refused("work(65)", ARGUMENT, () -> x.work(65));
        check.same("work(1)", x.work(1), 63);
        check.same("work(62)", x.work(62), 1);
        check.same("index(4, 0)", x.index(4, 0), 1);
        check.same("work(64)", x.work(64), 0);
        check.same("index(4, 0)", x.index(4, 0), 2);
        check.refused("work(1) when it is ready", STATE, () -> x.work(1));
        x.build(5);
        check.same("work(64) of 64 rows", x.work(64), 0);
    }

    private void sideList() {
        check.part("promise 21, the side list");
        SelfArranger x = table(4, 4);
        x.build(0);
        check.same("work(2)", x.work(2), 2);
        x.change(2, 0, 9);
        x.delete(3);
        check.refused("change to 1001", ARGUMENT, () -> x.change(0, 0, 1001));
        check.same("rows that were not handled", x.work(1), 1);
        x.change(1, 2, 9);
        x.change(1, 2, 9);
        x.delete(0);
        check.same("rows go before the side list", x.work(1), 3);
        x.insert(1, 1, 1);
        check.same("a new row goes before the side list", x.work(1), 3);
        x.change(4, 0, 2);
        check.same("it was handled", x.work(1), 3);
        check.same("one call for rows and the side list", x.work(2), 1);
        check.same("index(0, 0)", x.index(0, 0), 1);
        check.same("more than is left", x.work(2), 0);
        check.same("index(0, 0)", x.index(0, 0), 2);
        x.change(1, 0, -9);
        check.same("it follows the changes", x.index(0, 3), 1);
        x.build(1);
        check.same("the next one begins anew", x.work(1), 4);
        x.change(1, 0, 3);
        check.same("a row that was not handled", x.work(4), 0);
    }

    private void drop() {
        check.part("promise 22");
        SelfArranger x = table(4, 20);
        check.yes("drop of none is false", !x.drop(0));
        x.build(0);
        x.work(5);
        x.delete(0);
        check.yes("drop of one beside the building one is false", !x.drop(1));
        check.same("it goes on", x.work(1), 15);
        check.yes("drop of a building one is true", x.drop(0));
        check.same("index(0, 0)", x.index(0, 0), 0);
        check.refused("work(1)", STATE, () -> x.work(1));
        x.build(0);
        check.same("it begins anew, without a side list", x.work(19), 1);
        check.same("work(1)", x.work(1), 0);
        x.where(0, 1, 5, 0);
        x.ask();
        check.same("last(0)", x.last(0), 0);
        x.build(1);
        check.yes("drop of a ready one is true", x.drop(0));
        check.same("the building one stays", x.index(1, 0), 1);
        x.ask();
        check.same("last(0)", x.last(0), NONE);
        check.refused("drop(-1)", OUTSIDE, () -> x.drop(-1));
        check.refused("drop(9)", OUTSIDE, () -> x.drop(9));
    }
}
