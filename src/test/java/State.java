/** States of an object, each made anew by the same calls whenever one is needed. */
enum State {
    /** Nothing has been called. */
    NEW {
        @Override
        SelfArranger make() {
            return new SelfArranger(5);
        }
    },

    /**
     * Rows 0 .. 20 without row 4, the indexes 0 and 5 ready, three shapes, the pool in use; the latest answer has four
     * rows, and the query has been changed since then.
     */
    IN_USE {
        @Override
        SelfArranger make() {
            SelfArranger x = new SelfArranger(5);
            for (int r = 0; r < 21; r++) {
                x.insert(r % 7, r % 3, -r);
            }
            x.delete(4);
            x.budget(30);
            x.ask();
            x.period();
            x.build(0);
            x.work(64);
            x.where(0, 1, 2, 0);
            x.ask();
            x.build(5);
            x.work(64);
            x.where(1, 2, 0, 2);
            x.order(2, 4);
            x.where(0, 2, 2, 3);
            x.ask();
            x.where(0, 1, 5, 0);
            x.order(1, 5);
            return x;
        }
    },

    /** As IN_USE, but index 3 is building: the rows 0 .. 5 are handled, and two changes are on the side list. */
    BUILDING {
        @Override
        SelfArranger make() {
            SelfArranger x = IN_USE.make();
            x.build(3);
            x.work(6);
            x.change(5, 0, 6);
            x.change(6, 0, 1);
            x.delete(1);
            return x;
        }
    },

    /** There were 64 rows, 0 and 63 are gone; the ledger has eight shapes, and index 8 is ready. */
    FULL {
        @Override
        SelfArranger make() {
            SelfArranger x = new SelfArranger(16);
            for (int r = 0; r < 64; r++) {
                x.insert(r % 5, r % 9, r);
            }
            x.delete(0);
            x.delete(63);
            x.build(8);
            x.work(64);
            for (int code = 11; code < 19; code++) {
                Trial.shapeOf(x, code);
                x.ask();
            }
            return x;
        }
    };

    abstract SelfArranger make();
}
