import java.util.ArrayList;
import java.util.List;
import java.util.function.LongSupplier;

/**
 * All that can be seen of an object, and then, by calls that change it, what only shows later: frames, marks and hand
 * of the pool, the side list. Two objects with the same probe are in the same state, as far as the face tells.
 */
final class Probe {
    private static final int ROWS = 64;
    private static final int ANSWERS = 8;

    private final SelfArranger x;
    private final List<String> seen = new ArrayList<>();

    private Probe(SelfArranger x) {
        this.x = x;
    }

    /** Uses the object up: about 300 calls. */
    static List<String> of(SelfArranger x) {
        Probe probe = new Probe(x);
        probe.rows();
        probe.latestAsking();
        probe.ledger();
        probe.indexes();
        probe.query();
        probe.pool();
        probe.building();
        probe.newRow();
        return probe.seen;
    }

    private void see(String call, LongSupplier answer) {
        String told;
        try {
            told = String.valueOf(answer.getAsLong());
        } catch (RuntimeException e) {
            told = "throws." + e.getClass().getSimpleName();
        }
        seen.add(call + " " + told);
    }

    private void rows() {
        for (int r = 0; r < ROWS; r++) {
            for (int c = 0; c < 3; c++) {
                int row = r;
                int column = c;
                see("value(" + r + ", " + c + ")", () -> x.value(row, column));
            }
        }
    }

    private void latestAsking() {
        for (int k = 0; k < 4; k++) {
            int what = k;
            see("last(" + k + ")", () -> x.last(what));
        }
        for (int k = 0; k < ANSWERS; k++) {
            int place = k;
            see("answer(" + k + ")", () -> x.answer(place));
        }
    }

    private void ledger() {
        see("changes()", x::changes);
        see("shapes()", x::shapes);
        int count = x.shapes();
        for (int k = 0; k < count; k++) {
            for (int w = 0; w < 3; w++) {
                int place = k;
                int what = w;
                see("shape(" + k + ", " + w + ")", () -> x.shape(place, what));
            }
        }
        see("choose()", x::choose);
        see("costOf(511)", () -> x.costOf(511));
    }

    private void indexes() {
        see("cost(NONE)", () -> x.cost(SelfArranger.NONE));
        for (int i = 0; i < 9; i++) {
            int index = i;
            see("cost(" + i + ")", () -> x.cost(index));
            see("index(" + i + ", 0)", () -> x.index(index, 0));
            see("index(" + i + ", 3)", () -> x.index(index, 3));
        }
        see("index(0, 2)", () -> x.index(0, 2));
    }

    /** Conditions, order and limit show in the next answer. */
    private void query() {
        see("ask()", x::ask);
        latestAsking();
    }

    /** Each row alone, then all of them: what is missed tells which pages were where, and the hand. */
    private void pool() {
        x.order(SelfArranger.NONE, ROWS);
        for (int v = 6; v >= 0; v -= 2) {
            x.where(0, 1, v, 0);
            x.where(1, 1, v, 0);
            x.where(2, 1, v, 0);
            x.ask();
            see("last(3)", () -> x.last(3));
        }
        for (int c = 0; c < 3; c++) {
            x.where(c, 0, 0, 0);
        }
        x.ask();
        see("last(3)", () -> x.last(3));
    }

    private void building() {
        see("work(1)", () -> x.work(1));
        see("work(15)", () -> x.work(15));
        see("work(1)", () -> x.work(1));
        see("work(64)", () -> x.work(64));
    }

    private void newRow() {
        see("insert", () -> x.insert(1, 2, 3));
        see("changes()", x::changes);
        see("period()", x::period);
    }
}
