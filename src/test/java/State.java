/** States of an object, each made anew by the same calls whenever one is needed. */
enum State {
    /** Nothing has been called. */
    NEW {
        @Override
        SelfArranger make() {
            return new SelfArranger(5);
        }
    },

    /**
     * Rows 0 .. 20 without row 4, the indexes 0 and 5 ready, three shapes, all frames marked; the latest answer has
     * two rows, and the query has been changed since then.
     */
    IN_USE {
        @Override
        SelfArranger make() {
            SelfArranger x = new SelfArranger(5);
            for (int r = 0; r < 21; r++) {
                x.insert(r % 7, r % 3, -r);
            }
            x.delete(4);
            x.budget(30);
            x.ask();
            x.period();
            Trial.ready(x, 0);
            Trial.ready(x, 5);
            x.where(1, 1, 2, 0);
            x.ask();
            x.where(0, 1, 4, 0);
            x.where(1, 2, 0, 2);
            x.order(2, 4);
            x.ask();
            x.ask();
            x.where(0, 1, 5, 0);
            x.order(1, 5);
            return x;
        }
    },

    /** As IN_USE, but index 3 is building: the rows 0 .. 5 are handled, and two changes are on the side list. */
    BUILDING {
        @Override
        SelfArranger make() {
            SelfArranger x = IN_USE.make();
            x.build(3);
            x.work(6);
            x.change(5, 0, 6);
            x.change(6, 0, 1);
            x.delete(1);
            return x;
        }
    },

    /** There were 64 rows, 0 and 63 are gone; the ledger has eight shapes, index 8 is ready and was the latest way. */
    FULL {
        @Override
        SelfArranger make() {
            SelfArranger x = new SelfArranger(6);
            for (int r = 0; r < 64; r++) {
                x.insert(r % 5, r % 9, r);
            }
            x.delete(0);
            x.delete(63);
            Trial.ready(x, 8);
            x.ask();
            for (int code = 12; code < 19; code++) {
                Trial.shapeOf(x, code);
                x.ask();
            }
            return x;
        }
    },

    /**
     * Indexes of one leaf each, so that a query touches a page or two: the frames hold page 2 and the leaves of 1 and
     * 2, and page 1; the first two are marked, and the hand is at the second one.
     */
    SMALL {
        @Override
        SelfArranger make() {
            SelfArranger x = new SelfArranger(4);
            for (int r = 0; r < 16; r++) {
                x.insert(r, r, r);
                if (r % 4 != 0) {
                    x.delete(r);
                }
            }
            for (int index = 0; index < 3; index++) {
                Trial.ready(x, index);
            }
            int[][] columnAndValue = {{0, 900}, {1, 900}, {2, 900}, {0, 4}, {0, 8}, {1, 900}};
            for (int[] pair : columnAndValue) {
                x.where(pair[0], 1, pair[1], 0);
                x.ask();
                x.where(pair[0], 0, 0, 0);
            }
            return x;
        }
    };

    abstract SelfArranger make();
}
