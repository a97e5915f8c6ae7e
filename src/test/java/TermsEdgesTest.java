/** Each sentence of the document's terms that names a boundary: empty, full, the last one, the first one behind it. */
public final class TermsEdgesTest extends Trial {
    private static final int CALLS = 512;

    public static void main(String[] args) {
        TermsEdgesTest test = new TermsEdgesTest();
        test.rowsAreSixtyFourAtMost();
        test.numbersAreNotUsedAgain();
        test.heapPagesOfRowsEverInserted();
        test.rowsLieFourOnAHeapPage();
        test.indexWithoutEntries();
        test.indexWithOneLeaf();
        test.lastLeafWithFewerEntries();
        test.levelsUpToOneNode();
        test.entriesOfTheSameValues();
        test.stretchBySecondColumn();
        test.emptyStretchBeforeAndBetween();
        test.emptyStretchBehindAll();
        test.emptyStretchFromAboveTo();
        test.emptyStretchOfTwoColumns();
        test.heapOfTheLeastCost();
        test.leastIndexOfSeveral();
        test.framesHoldNoneAtFirst();
        test.handBehindTheLastFrame();
        test.handPassesMarkedFrames();
        test.levelsAreTouchedDownwards();
        test.leavesAreTouchedInOrder();
        test.pagesAreKnownByAllOfTheirName();
        test.ledgerWithEightShapes();
        test.fullLedgerKeepsNewConditions();
        test.roomInTheLedgerAgain();
        test.weightsAreRoundedDown();
        test.changesAreRoundedDown();
        test.shapesOfWeightNothingGo();
        test.setsAtTheBudget();
        test.setsOfOneLeafAtTheBudget();
        test.severalBestSets();
        test.sideListOfHandledRows();
        test.deletionsBesideABuilding();
        test.insertionsBesideABuilding();
        test.allRowsDeletedBesideABuilding();
        test.nothingToBeHandled();
        test.atMostOneIsBuilding();
        test.lastOfAllCalls();
        test.check.end();
    }

    private void rowsAreSixtyFourAtMost() {
        check.part("rows with numbers 0, 1, .. , 64 at most");
        SelfArranger x = new SelfArranger(4);
        for (int r = 0; r < 64; r++) {
            check.refused("value of a row to come", OUTSIDE, () -> x.value(x.changes() / 4, 0));
            check.same("insert", x.insert(r, r, r), r);
        }
        check.refused("insert", FULL, () -> x.insert(0, 0, 0));
        check.refused("value(64, 0)", OUTSIDE, () -> x.value(64, 0));
        check.same("value(63, 0)", x.value(63, 0), 63);
        check.same("ask()", x.ask(), 64);
    }

    private void numbersAreNotUsedAgain() {
        check.part("numbers of rows that were deleted are not used again");
        SelfArranger x = new SelfArranger(4);
        for (int r = 0; r < 64; r++) {
            check.same("insert", x.insert(0, 0, 0), r);
            x.delete(r);
        }
        check.refused("insert into an empty table", FULL, () -> x.insert(0, 0, 0));
        check.same("ask()", x.ask(), 0);
        check.same("cost(NONE)", x.cost(NONE), 16);
    }

    private void heapPagesOfRowsEverInserted() {
        check.part("as many heap pages as the rows that were ever inserted need");
        int[][] rowsAndPages = {{0, 0}, {1, 1}, {4, 1}, {5, 2}, {8, 2}, {9, 3}, {60, 15}, {61, 16}, {64, 16}};
        for (int[] pair : rowsAndPages) {
            SelfArranger x = table(16, pair[0]);
            check.same("cost(NONE) of " + pair[0], x.cost(NONE), pair[1]);
            deleteRows(x, 0, pair[0]);
            check.same("cost(NONE) behind the deletion of all", x.cost(NONE), pair[1]);
            x.ask();
            lastIs(x, NONE, pair[1], pair[1]);
        }
    }

    /** One leaf for the rows 3, 4 and 63, so that each costs that leaf and its heap page. */
    private void rowsLieFourOnAHeapPage() {
        check.part("row r is on heap page r / 4");
        SelfArranger x = table(16, 64);
        deleteRows(x, 0, 3);
        deleteRows(x, 5, 60);
        ready(x, 0);
        deleteRows(x, 60, 63);
        askForRow(x, 3, 2);
        askForRow(x, 4, 1);
        askForRow(x, 63, 1);
        askForRow(x, 3, 0);
        x.where(0, 2, 3, 4);
        x.ask();
        lastIs(x, 0, 3, 0);
    }

    private void askForRow(SelfArranger x, int v, int misses) {
        x.where(0, 1, v, 0);
        x.ask();
        lastIs(x, 0, 2, misses);
    }

    private void formIs(SelfArranger x, int height, int size) {
        for (int index = 0; index < 9; index++) {
            check.same("height of index " + index, x.index(index, 1), height);
            check.same("size of index " + index, x.index(index, 2), size);
        }
    }

    private void indexWithoutEntries() {
        check.part("without entries there is one leaf");
        SelfArranger x = new SelfArranger(4);
        formIs(x, 0, 1);
        ready(x, 0);
        x.where(0, 1, 0, 0);
        check.same("cost(0)", x.cost(0), 1);
        check.same("ask()", x.ask(), 0);
        // The heap has no page yet.
        lastIs(x, NONE, 0, 0);
        x = table(4, 8);
        ready(x, 0);
        deleteRows(x, 0, 8);
        formIs(x, 0, 1);
        x.where(0, 2, Integer.MIN_VALUE, Integer.MAX_VALUE);
        check.same("ask()", x.ask(), 0);
        lastIs(x, 0, 1, 1);
        x.where(0, 2, 9, 0);
        x.ask();
        lastIs(x, 0, 1, 0);
    }

    private void indexWithOneLeaf() {
        check.part("with one leaf there is no level");
        int[][] rowsHeightSize = {{1, 0, 1}, {4, 0, 1}, {5, 1, 3}};
        for (int[] due : rowsHeightSize) {
            SelfArranger x = table(4, 16);
            deleteRows(x, due[0], 16);
            formIs(x, due[1], due[2]);
            ready(x, 0);
            x.where(0, 1, 0, 0);
            x.ask();
            lastIs(x, 0, due[1] + 2, due[1] + 2);
        }
    }

    /** 61 rows: the last one is alone in leaf 15, below node 3. */
    private void lastLeafWithFewerEntries() {
        check.part("the last one perhaps fewer");
        SelfArranger x = table(16, 61);
        ready(x, 0);
        formIs(x, 2, 21);
        stretchOf(x, 60, 60, 4, 4);
        stretchOf(x, 59, 60, 6, 2);
        stretchOf(x, 56, 59, 7, 0);
        stretchOf(x, 60, 999, 4, 0);
        x.insert(61, 0, 0);
        x.insert(62, 0, 0);
        x.insert(63, 0, 0);
        stretchOf(x, 60, 63, 7, 0);
        x.delete(0);
        // Now the rows 61 .. 63 are the last leaf, and row 60 is on leaf 14.
        stretchOf(x, 61, 63, 6, 0);
        stretchOf(x, 60, 61, 6, 0);
    }

    private void stretchOf(SelfArranger x, int from, int to, int cost, int misses) {
        x.where(0, 2, from, to);
        x.ask();
        lastIs(x, 0, cost, misses);
    }

    private void levelsUpToOneNode() {
        check.part("up to the level that has one node");
        int[][] rowsHeightSize = {{64, 2, 21}, {61, 2, 21}, {60, 2, 20}, {49, 2, 18}, {48, 2, 16}, {33, 2, 13},
            {32, 2, 11}, {17, 2, 8}, {16, 1, 5}, {13, 1, 5}, {12, 1, 4}, {9, 1, 4}, {8, 1, 3}, {5, 1, 3}, {4, 0, 1},
            {1, 0, 1}, {0, 0, 1}};
        SelfArranger x = table(4, 64);
        int there = 64;
        for (int[] due : rowsHeightSize) {
            while (there > due[0]) {
                there--;
                x.delete(there);
            }
            check.same("height of " + there, x.index(4, 1), due[1]);
            check.same("size of " + there, x.index(4, 2), due[2]);
            SelfArranger y = table(4, there);
            check.same("height of " + there + ", inserted", y.index(4, 1), due[1]);
            check.same("size of " + there + ", inserted", y.index(4, 2), due[2]);
        }
    }

    private void entriesOfTheSameValues() {
        check.part("by their values in its columns, then by their numbers");
        SelfArranger x = new SelfArranger(4);
        for (int r = 0; r < 5; r++) {
            x.insert(7, 7, 7);
        }
        for (int r = 0; r < 4; r++) {
            for (int index = 0; index < 9; index++) {
                check.same("first entry", x.index(index, 3), r);
            }
            x.delete(r);
        }
        x.insert(7, 7, 6);
        int[] due = {4, 4, 5, 4, 5, 4, 5, 5, 5};
        for (int index = 0; index < 9; index++) {
            check.same("index(" + index + ", 3)", x.index(index, 3), due[index]);
        }
    }

    /** 64 rows: 8 with each first value, 8 with each second one; the third one is the number. */
    private void stretchBySecondColumn() {
        check.part("if that is the same as a value, and it has a second column with a condition");
        SelfArranger x = squares(4);
        x.where(0, 1, 3, 0);
        check.same("no second condition", x.cost(3), 2 + 2 + 8);
        x.where(1, 1, 50, 0);
        check.same("the same and the same", x.cost(3), 2 + 1 + 1);
        x.where(1, 2, 30, 40);
        check.same("the same and from-to, on two leaves", x.cost(3), 2 + 2 + 2);
        check.same("from-to and the same", x.cost(5), 2 + 4 + 16);
        x.where(0, 2, 3, 3);
        check.same("from-to of one value and from-to", x.cost(3), 2 + 2 + 8);
        check.same("no second column", x.cost(0), 2 + 2 + 8);
        check.same("a second column without a condition", x.cost(4), 2 + 2 + 8);
        x.where(1, 0, 0, 0);
        check.same("no condition of the first column", x.cost(5), NONE);
    }

    /** Row r has the values r / 8, r % 8 * 10 and r: in index 3 the entries stand by their numbers. */
    private static SelfArranger squares(int frames) {
        SelfArranger x = new SelfArranger(frames);
        for (int r = 0; r < 64; r++) {
            x.insert(r / 8, r % 8 * 10, r);
        }
        return x;
    }

    /** Row r has the first value 10 * r: entry r of index 0, which is ready. */
    private static SelfArranger tens() {
        SelfArranger x = new SelfArranger(16);
        for (int r = 0; r < 64; r++) {
            x.insert(10 * r, 0, 0);
        }
        ready(x, 0);
        return x;
    }

    /** An empty stretch costs two nodes and a leaf. */
    private void empty(SelfArranger x, int from, int to, int misses) {
        x.where(0, 2, from, to);
        check.same("ask()", x.ask(), 0);
        lastIs(x, 0, 3, misses);
    }

    /** The same, for a first value alone. */
    private void empty(SelfArranger x, int v, int misses) {
        x.where(0, 1, v, 0);
        check.same("ask()", x.ask(), 0);
        lastIs(x, 0, 3, misses);
    }

    private void single(SelfArranger x, int v, int misses) {
        x.where(0, 1, v, 0);
        check.same("ask()", x.ask(), 1);
        lastIs(x, 0, 4, misses);
    }

    private void emptyStretchBeforeAndBetween() {
        check.part("its one leaf is that of the first entry that is not before it");
        SelfArranger x = tens();
        // Before all: root, node 0 and leaf 0, so that the first row lacks its heap page alone.
        empty(x, -1, 3);
        single(x, 0, 1);
        empty(x, Integer.MIN_VALUE, 0);
        // Before the last entry of leaf 0, then before the first one of leaf 1.
        empty(x, 29, 0);
        empty(x, 31, 1);
        single(x, 40, 1);
        empty(x, 69, 0);
        // Before the first entry of leaf 4, the first one below node 1.
        empty(x, 159, 2);
        single(x, 160, 1);
        empty(x, 151, 159, 0);
        empty(x, 161, 169, 0);
    }

    private void emptyStretchBehindAll() {
        check.part("the last leaf, if there is none such");
        SelfArranger x = tens();
        empty(x, 631, 3);
        // Leaf 14 is another one, below the same node; of leaf 15 only the heap page was lacking.
        single(x, 590, 2);
        single(x, 630, 1);
        empty(x, Integer.MAX_VALUE, 0);
        empty(x, 621, 629, 0);
        // A last leaf with one entry is still the last one.
        deleteRows(x, 61, 64);
        empty(x, 601, 0);
        // Leaf 14 is the last one now, and then leaf 13.
        x.delete(60);
        empty(x, 601, 0);
        empty(x, 591, 999, 0);
        deleteRows(x, 56, 60);
        empty(x, 999, 1);
        single(x, 550, 1);
    }

    private void emptyStretchFromAboveTo() {
        check.part("less than the least one that fits there (from)");
        SelfArranger x = tens();
        single(x, 50, 4);
        // From 50, which is entry 5 on leaf 1; to does not matter.
        empty(x, 50, 49, 0);
        empty(x, 50, Integer.MIN_VALUE, 0);
        empty(x, 41, 40, 0);
        // From 40, the first entry of leaf 1, and from 30, the last one of leaf 0.
        empty(x, 40, 0, 0);
        empty(x, 30, 0, 1);
        empty(x, Integer.MAX_VALUE, Integer.MIN_VALUE, 2);
    }

    private void emptyStretchOfTwoColumns() {
        check.part("or, if the second column's condition counts, is that and less than from there");
        SelfArranger x = squares(16);
        ready(x, 3);
        // Before the first entry with 2, which is entry 16 on leaf 4, below node 1.
        emptyPair(x, 1, 2, 1, -1, 3);
        // Before entry 20, on leaf 5, and before entry 19, on leaf 4.
        emptyPair(x, 1, 2, 1, 31, 1);
        emptyPair(x, 1, 2, 2, 29, 0);
        // Behind the last entry with 2: entry 24, on leaf 6.
        emptyPair(x, 1, 2, 1, 71, 1);
        emptyPair(x, 1, 2, 2, 999, 0);
        // Behind all: leaf 15, below node 3.
        emptyPair(x, 1, 7, 1, 71, 2);
        emptyPair(x, 1, 8, 1, 0, 0);
        // It does not count behind from-to: entry 16 is not before it, though 0 is less than 75.
        emptyPair(x, 2, 2, 1, 75, 0);
        // Before all: leaf 0, below node 0.
        emptyPair(x, 1, 0, 1, -1, 2);
        emptyPair(x, 1, -1, 1, 75, 0);
    }

    /** Kind 2 of the first column: from v to v - 1; kind 2 of the second one: from w to w. */
    private void emptyPair(SelfArranger x, int kind, int v, int secondKind, int w, int misses) {
        x.where(0, kind, v, v - 1);
        x.where(1, secondKind, w, w);
        check.same("ask()", x.ask(), 0);
        lastIs(x, 3, 3, misses);
    }

    /** 9 to 12 rows: a row alone costs a node, a leaf and its page, as much as the heap. */
    private void heapOfTheLeastCost() {
        check.part("of several the heap");
        SelfArranger x = table(16, 12);
        ready(x, 0);
        x.where(0, 1, 5, 0);
        check.same("cost(0)", x.cost(0), 3);
        x.ask();
        lastIs(x, NONE, 3, 3);
        x.insert(50, 0, 0);
        check.same("cost(0)", x.cost(0), 3);
        x.ask();
        lastIs(x, 0, 3, 2);
        // The heap keeps its pages; row 5 comes to leaf 0.
        deleteRows(x, 0, 4);
        x.ask();
        lastIs(x, 0, 3, 1);
    }

    /** Row 7 alone by each pair of columns, and by column 0 or 2: two nodes, a leaf and a page; the heap has five. */
    private void leastIndexOfSeveral() {
        check.part("then the least index");
        SelfArranger x = table(16, 20);
        x.where(0, 1, 7, 0);
        x.where(1, 1, 3, 0);
        x.where(2, 1, -7, 0);
        int[] indexes = {8, 7, 6, 5, 4, 3, 2, 1, 0};
        int way = NONE;
        for (int index : indexes) {
            // Column 1 alone has five entries on two leaves.
            int cost = index == 1 ? 2 + 2 + 5 : 4;
            check.same("cost(" + index + ")", x.cost(index), cost);
            ready(x, index);
            way = index == 1 ? way : index;
            x.ask();
            check.same("last(0), the least", x.last(0), way);
            check.same("last(1)", x.last(1), 4);
        }
        for (int index = 0; index < 9; index++) {
            x.drop(index);
            x.ask();
            int due = index == 8 ? NONE : index == 0 ? 2 : index + 1;
            check.same("last(0) behind a drop", x.last(0), due);
        }
    }

    private void framesHoldNoneAtFirst() {
        check.part("one page each, or none (at first)");
        for (int frames = 2; frames <= 16; frames++) {
            SelfArranger x = table(frames, 64);
            x.ask();
            lastIs(x, NONE, 16, 16);
        }
    }

    /** Three frames; one leaf L and the rows 0, 16, 32, 48, each on a page of its own. */
    private void handBehindTheLastFrame() {
        check.part("behind the last one comes frame 0");
        SelfArranger x = table(3, 64);
        ready(x, 0);
        for (int r = 0; r < 64; r += 16) {
            deleteRows(x, r + 1, r + 16);
        }
        // L and 0 take the frames 0 and 1, 16 takes frame 2; the hand is at frame 0.
        askForRow(x, 0, 2);
        askForRow(x, 16, 1);
        // All marks go, and 32 takes frame 0, where L was.
        askForRow(x, 32, 1);
        // L takes frame 1, where 0 was; 16 is in frame 2.
        askForRow(x, 16, 1);
        // The marks of 2, 0 and 1 go, and 0 takes frame 2; the hand is at frame 0.
        askForRow(x, 0, 1);
        askForRow(x, 32, 0);
        // All are marked: 48 takes frame 0. Then only L is marked: 32 takes frame 2.
        askForRow(x, 48, 1);
        askForRow(x, 32, 1);
        askForRow(x, 48, 0);
        // All are marked: 0 takes frame 0, where 48 was; that takes frame 2.
        askForRow(x, 0, 1);
        askForRow(x, 48, 1);
        askForRow(x, 0, 0);
    }

    /** Three frames; A, B and C are the leaves of the indexes 0, 1 and 2, which have one each; h is heap page 0. */
    private void handPassesMarkedFrames() {
        check.part("as long as the hand's frame is marked, the mark goes, and the hand goes to the next frame");
        SelfArranger x = table(3, 12);
        deleteRows(x, 1, 12);
        for (int index = 0; index < 3; index++) {
            ready(x, index);
        }
        leafAlone(x, 0, 1);
        leafAlone(x, 1, 1);
        leafAlone(x, 2, 1);
        // A is there; all marks go, h takes its frame, and the hand is at the frame of B.
        x.where(2, 0, 0, 0);
        askForRow(x, 0, 1);
        // B is marked and so is passed over: A takes the frame of C; the hand is at the frame of h.
        leafAlone(x, 1, 0);
        leafAlone(x, 0, 1);
        // h is marked still, but B is not: C takes its frame.
        leafAlone(x, 2, 1);
        x.where(2, 0, 0, 0);
        askForRow(x, 0, 0);
        leafAlone(x, 2, 0);
        leafAlone(x, 1, 1);
    }

    /** A condition that no row fits, on a column alone, touches the one leaf of the index on it. */
    private void leafAlone(SelfArranger x, int column, int misses) {
        for (int c = 0; c < 3; c++) {
            x.where(c, c == column ? 1 : 0, 900, 0);
        }
        x.ask();
        lastIs(x, column, 1, misses);
    }

    /** Four frames: row 0 touches the root, node 0, leaf 0 and page 0, row 63 the root and others. */
    private void levelsAreTouchedDownwards() {
        check.part("from the highest level down to level 1");
        SelfArranger x = table(4, 64);
        ready(x, 0);
        single(x, 0, 4);
        // All marks go: node 3, leaf 15 and page 15 take the frames of the root, node 0 and leaf 0.
        single(x, 63, 3);
        single(x, 63, 1);
    }

    /** Four frames; one node, and the entries 0, 1, 2, 16 and 17, 32, 33, 34 in two leaves. */
    private void leavesAreTouchedInOrder() {
        check.part("then the leaves of the stretch");
        SelfArranger x = table(4, 64);
        ready(x, 0);
        deleteRows(x, 3, 16);
        deleteRows(x, 18, 32);
        deleteRows(x, 35, 64);
        // Node, leaf 0, leaf 1 and page 4, twice.
        stretchOf(x, 16, 17, 5, 4);
        // Page 0 takes the frame of the node; then the node takes that of leaf 0, and leaf 0 that of leaf 1.
        stretchOf(x, 0, 0, 3, 1);
        stretchOf(x, 0, 0, 3, 2);
        // Leaf 1 takes the frame of page 4; all marks go, and page 8 takes that of page 0.
        stretchOf(x, 33, 33, 3, 2);
        stretchOf(x, 0, 0, 3, 1);
    }

    /** Root, node, leaf and heap page of row 0 all have place 0, and so have those of the other indexes. */
    private void pagesAreKnownByAllOfTheirName() {
        check.part("a page is known by what it is of, its level and its place in it");
        SelfArranger x = table(16, 20);
        x.where(0, 1, 0, 0);
        x.where(1, 1, 0, 0);
        int[] misses = {4, 3, 3, 3};
        int[] indexes = {0, 3, 4, 5};
        for (int k = 0; k < indexes.length; k++) {
            ready(x, indexes[k]);
            x.ask();
            lastIs(x, indexes[k], 4, misses[k]);
            x.ask();
            lastIs(x, indexes[k], 4, 0);
            x.drop(indexes[k]);
        }
    }

    private void ledgerWithEightShapes() {
        check.part("the ledger has at most eight shapes");
        SelfArranger x = table(4, 8);
        for (int code = 0; code < 8; code++) {
            shapeOf(x, code);
            x.ask();
            check.same("shapes()", x.shapes(), code + 1);
        }
        long cost = x.costOf(0);
        shapeOf(x, 8);
        check.same("the ninth is answered", x.ask(), 1);
        lastIs(x, NONE, 2, 0);
        check.same("shapes()", x.shapes(), 8);
        check.same("costOf(0)", x.costOf(0), cost);
        for (int k = 0; k < 8; k++) {
            check.same("kinds", x.shape(k, 1), k);
            check.same("weight", x.shape(k, 0), 16);
        }
        shapeOf(x, 7);
        x.ask();
        check.same("the eighth grows", x.shape(7, 0), 32);
        shapeOf(x, 0);
        x.ask();
        check.same("the first grows", x.shape(0, 0), 32);
        check.same("shapes()", x.shapes(), 8);
    }

    private void fullLedgerKeepsNewConditions() {
        check.part("its conditions are kept with it (those of before are forgotten)");
        SelfArranger x = table(4, 64);
        ready(x, 0);
        for (int code = 8; code > 0; code--) {
            shapeOf(x, code);
            x.ask();
        }
        check.same("shape 1: the value 1", x.shape(7, 1), 1);
        check.same("two nodes, a leaf, a row", x.shape(7, 2), 4);
        x.where(0, 1, -5, 0);
        check.same("not asked yet", x.shape(7, 2), 4);
        x.ask();
        check.same("no row", x.shape(7, 2), 3);
        x.where(0, 2, 1, 2);
        x.where(1, 1, 1, 0);
        x.ask();
        check.same("shape 5, two rows", x.shape(3, 2), 5);
        check.same("the others stay", x.shape(6, 2), 4);
        // A shape that finds no room leaves all that is kept.
        x.where(2, 1, 900, 0);
        x.where(0, 2, 1, 30);
        x.ask();
        check.same("shape 5 stays", x.shape(3, 2), 5);
        check.same("and its weight", x.shape(3, 0), 32);
    }

    private void roomInTheLedgerAgain() {
        check.part("or there is room for it");
        SelfArranger x = new SelfArranger(4);
        for (int code = 0; code < 8; code++) {
            shapeOf(x, code);
            x.ask();
            if (code != 4) {
                x.ask();
            }
        }
        for (int k = 0; k < 7; k++) {
            check.same("period()", x.period(), 8);
        }
        shapeOf(x, 26);
        x.ask();
        check.same("no room yet", x.shapes(), 8);
        check.same("period()", x.period(), 7);
        x.ask();
        check.same("room for one", x.shapes(), 8);
        shapeOf(x, 25);
        x.ask();
        check.same("and no more", x.shapes(), 8);
        int[] kinds = {0, 1, 2, 3, 5, 6, 7, 26};
        for (int k = 0; k < 8; k++) {
            check.same("kinds, by when they came", x.shape(k, 1), kinds[k]);
            check.same("weight", x.shape(k, 0), k == 7 ? 16 : 2);
        }
    }

    private void weightsAreRoundedDown() {
        check.part("all weights become three quarters, rounded down");
        int[][] weights = {{16, 12, 9, 6, 4, 3, 2, 1}, {32, 24, 18, 13, 9, 6, 4, 3, 2, 1},
            {48, 36, 27, 20, 15, 11, 8, 6, 4, 3, 2, 1}, {80, 60, 45, 33, 24, 18, 13, 9, 6, 4, 3, 2, 1}};
        for (int[] due : weights) {
            SelfArranger x = new SelfArranger(4);
            for (int k = 0; k < due[0] / 16; k++) {
                x.ask();
            }
            for (int k = 0; k < due.length; k++) {
                check.same("weight behind " + k + " periods", x.shape(0, 0), due[k]);
                check.same("period()", x.period(), k < due.length - 1 ? 1 : 0);
            }
            check.same("shapes()", x.shapes(), 0);
        }
    }

    private void changesAreRoundedDown() {
        check.part("all weights, those of the changes too");
        int[][] weights = {{4, 3, 2, 1, 0, 0}, {20, 15, 11, 8, 6, 4, 3, 2, 1, 0}};
        for (int[] due : weights) {
            SelfArranger x = table(4, due[0] / 4);
            for (int k = 0; k < due.length; k++) {
                check.same("changes() behind " + k + " periods", x.changes(), due[k]);
                x.period();
            }
            x.insert(0, 0, 0);
            check.same("changes() grow again", x.changes(), 4);
        }
    }

    private void shapesOfWeightNothingGo() {
        check.part("shapes with weight 0 go");
        SelfArranger x = table(4, 1);
        shapeOf(x, 1);
        x.ask();
        shapeOf(x, 2);
        x.ask();
        for (int k = 0; k < 7; k++) {
            check.same("period()", x.period(), 2);
        }
        check.same("weight 1 stays", x.shape(1, 0), 1);
        x.ask();
        check.same("and grows", x.shape(1, 0), 17);
        check.same("period()", x.period(), 1);
        check.same("the first went", x.shape(0, 1), 2);
        check.same("weight", x.shape(0, 0), 12);
        check.refused("shape(1, 0)", OUTSIDE, () -> x.shape(1, 0));
        check.same("costOf(0) is of what is left", x.costOf(0), 12);
        shapeOf(x, 1);
        x.ask();
        check.same("it comes anew, behind the other", x.shape(1, 1), 1);
        check.same("with a new weight", x.shape(1, 0), 16);
    }

    /** 17 rows: an index has five leaves, two nodes and a root. */
    private void setsAtTheBudget() {
        check.part("whose sizes together are not above the budget");
        SelfArranger x = table(4, 17);
        askForEachColumn(x);
        int[][] pagesAndSet = {{0, 0}, {7, 0}, {8, 1}, {15, 1}, {16, 3}, {23, 3}, {24, 7}, {25, 7}};
        for (int[] pair : pagesAndSet) {
            x.budget(pair[0]);
            check.same("choose() with " + pair[0], x.choose(), pair[1]);
        }
        check.same("costOf does not ask for the budget", x.costOf(511), 3 * 16 * 3);
        x.budget(16);
        x.delete(16);
        fadeChanges(x);
        askForEachColumn(x);
        check.same("smaller indexes, more of them", x.choose(), 7);
    }

    private void setsOfOneLeafAtTheBudget() {
        check.part("the budget and indexes of one page");
        SelfArranger x = table(4, 16);
        deleteRows(x, 4, 16);
        askForEachColumn(x);
        int[][] pagesAndSet = {{0, 0}, {1, 1}, {2, 3}, {3, 7}, {4, 7}};
        for (int[] pair : pagesAndSet) {
            x.budget(pair[0]);
            check.same("choose() with " + pair[0], x.choose(), pair[1]);
        }
    }

    /** Without changes an index costs nothing, so that a set with one more costs as much. */
    private void severalBestSets() {
        check.part("of several that with the fewest indexes, then that with the least sum");
        SelfArranger x = squares(4);
        fadeChanges(x);
        x.budget(200);
        x.where(2, 1, 5, 0);
        x.ask();
        check.same("costOf of 2, 7 or 8", x.costOf(1 << 2), x.costOf(1 << 8));
        check.same("costOf of all", x.costOf(511), x.costOf(1 << 2));
        check.same("the fewest, the least", x.choose(), 1 << 2);
        x.where(2, 0, 0, 0);
        x.where(0, 1, 3, 0);
        x.where(1, 1, 30, 0);
        x.ask();
        check.same("2 and 3", x.choose(), 1 << 2 | 1 << 3);
        x.where(0, 0, 0, 0);
        x.where(2, 1, 27, 0);
        x.ask();
        check.same("2 serves the third as well", x.choose(), 1 << 2 | 1 << 3);
        x.budget(21);
        check.same("room for one: 2 serves two shapes", x.choose(), 1 << 2);
        fewestBeforeLeastSum();
    }

    /** Indexes 0 and 1 have the sum 3, but one index with a greater sum does as well. */
    private void fewestBeforeLeastSum() {
        SelfArranger x = squares(4);
        fadeChanges(x);
        x.budget(200);
        x.where(1, 1, 900, 0);
        x.ask();
        x.where(0, 1, 900, 0);
        x.ask();
        // Shape 3 is served by 1, 5 and 6, shape 4 by 0, 1, 3, 5, .. : one index is enough.
        check.same("one index for both shapes", x.choose(), 1 << 1);
        x.where(0, 1, 3, 0);
        x.where(1, 1, 30, 0);
        x.ask();
        // Shape 4 wants 3 or 5 now, and 5 serves both shapes; 1 and 3 have the lesser sum.
        check.same("costOf of 1 and 3", x.costOf(1 << 1 | 1 << 3), x.costOf(1 << 5));
        check.same("one of a greater sum", x.choose(), 1 << 5);
    }

    private void sideListOfHandledRows() {
        check.part("a change of a row that was handled already comes to its side list");
        SelfArranger x = table(4, 4);
        x.build(0);
        x.change(0, 0, 1);
        check.same("nothing was handled", x.work(1), 3);
        x.change(1, 0, 1);
        check.same("row 1 was not handled", x.work(1), 2);
        x.change(1, 0, 1);
        x.change(2, 0, 1);
        check.same("row 1 was handled, row 2 not", x.work(1), 2);
        x.change(0, 2, 5);
        x.change(0, 2, 5);
        check.same("each change counts, those of one row too", x.work(1), 3);
        check.same("index(0, 0)", x.index(0, 0), 1);
        check.same("work(2)", x.work(2), 1);
        x.change(3, 1, 1);
        check.same("what comes meanwhile", x.work(1), 1);
        check.same("work(1)", x.work(1), 0);
        check.same("index(0, 0)", x.index(0, 0), 2);
        x.change(3, 1, 1);
        check.same("a ready index stays", x.index(0, 0), 2);
        check.refused("work(1)", STATE, () -> x.work(1));
    }

    private void deletionsBesideABuilding() {
        check.part("a row that is deleted while an index is building");
        SelfArranger x = table(4, 4);
        x.build(0);
        check.same("work(2)", x.work(2), 2);
        x.delete(1);
        x.delete(2);
        check.same("row 1 was handled; row 2 is to be handled nevertheless", x.work(1), 2);
        x.delete(0);
        check.same("work(1)", x.work(1), 2);
        check.same("work(1)", x.work(1), 1);
        check.refused("delete(0)", OUTSIDE, () -> x.delete(0));
        check.same("a refused one is no change", x.work(1), 0);
        check.same("first entry", x.index(0, 3), 3);
    }

    private void insertionsBesideABuilding() {
        check.part("a row that is inserted while an index is building");
        SelfArranger x = table(4, 2);
        x.build(0);
        check.same("work(1)", x.work(1), 1);
        x.insert(2, 2, 2);
        check.same("it is to be handled", x.work(1), 1);
        x.change(2, 0, 9);
        x.change(0, 0, 9);
        check.same("its change was no change of a handled row", x.work(1), 1);
        x.insert(3, 3, 3);
        x.change(3, 0, 9);
        check.same("all were handled before it: it goes before the side list", x.work(1), 1);
        x.change(3, 0, 9);
        check.same("now it was handled", x.work(1), 1);
        check.same("work(1)", x.work(1), 0);
        x.insert(4, 4, 4);
        check.same("ready it stays", x.index(0, 0), 2);
    }

    private void allRowsDeletedBesideABuilding() {
        check.part("the rows that were ever inserted");
        SelfArranger x = table(4, 8);
        deleteRows(x, 0, 8);
        x.build(0);
        check.same("it is not ready without rows", x.index(0, 0), 1);
        check.same("work(7)", x.work(7), 1);
        check.same("index(0, 0)", x.index(0, 0), 1);
        check.same("work(1)", x.work(1), 0);
        check.same("index(0, 0)", x.index(0, 0), 2);
    }

    private void nothingToBeHandled() {
        check.part("when nothing is left to be handled, it is ready");
        SelfArranger x = new SelfArranger(4);
        for (int index = 0; index < 9; index++) {
            x.build(index);
            check.same("index(" + index + ", 0)", x.index(index, 0), 2);
            check.refused("work(1)", STATE, () -> x.work(1));
        }
        x.drop(4);
        x.insert(0, 0, 0);
        x.build(4);
        check.same("index(4, 0)", x.index(4, 0), 1);
        check.same("the others stay", x.index(3, 0), 2);
        check.same("work(1)", x.work(1), 0);
    }

    private void atMostOneIsBuilding() {
        check.part("at most one is building");
        SelfArranger x = table(4, 2);
        x.build(0);
        check.refused("build(1)", STATE, () -> x.build(1));
        check.same("index(1, 0)", x.index(1, 0), 0);
        x.work(1);
        check.refused("build(1)", STATE, () -> x.build(1));
        x.work(1);
        x.build(1);
        check.same("index(1, 0)", x.index(1, 0), 1);
        x.work(1);
        x.change(0, 0, 5);
        check.yes("drop(1)", x.drop(1));
        x.build(2);
        check.same("index(2, 0)", x.index(2, 0), 1);
        check.same("index(1, 0)", x.index(1, 0), 0);
        check.same("all rows, and no side list", x.work(1), 1);
        x.drop(0);
        check.same("a drop of another one leaves it", x.work(1), 0);
    }

    /** The 512th call answers as those before it: the weights are the greatest that there can be. */
    private void lastOfAllCalls() {
        check.part("at most 512 calls");
        SelfArranger x = new SelfArranger(4);
        for (int k = 1; k < CALLS; k++) {
            x.ask();
        }
        check.same("shape(0, 0)", x.shape(0, 0), 511 * 16);
        SelfArranger y = table(4, 64);
        for (int k = 65; k < CALLS; k++) {
            y.ask();
        }
        check.same("costOf(511)", y.costOf(511), 447L * 16 * 16 + 9 * 256 * 3);
        SelfArranger z = table(4, 1);
        for (int k = 2; k < CALLS; k++) {
            z.change(0, 0, k);
        }
        check.same("changes()", z.changes(), 511 * 4);
    }
}
