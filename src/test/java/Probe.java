import java.util.ArrayList;
import java.util.List;
import java.util.function.LongSupplier;

/**
 * All that can be seen of an object, and, by calls that change it, what only shows later: frames, marks and hand of the
 * pool, the side list. Two states with the same probes are the same, as far as the face tells.
 */
final class Probe {
    private static final int ROWS = 64;
    private static final int ANSWERS = 8;
    private static final int FREE = Integer.MAX_VALUE;

    /** The values of the columns that are asked for: on the heap, or by one of the indexes that are ready. */
    private static final int[][] QUERIES = {{900, FREE, FREE}, {FREE, 900, FREE}, {FREE, FREE, 900}, {4, FREE, FREE},
        {FREE, FREE, FREE}, {FREE, 8, FREE}, {2, 2, FREE}};
    static final int BEGINNINGS = QUERIES.length;

    private final SelfArranger x;
    private final List<String> seen = new ArrayList<>();

    private Probe(SelfArranger x) {
        this.x = x;
    }

    /** What the calls that only tell answer, and then the query and the next row. */
    static List<String> seen(SelfArranger x) {
        Probe probe = new Probe(x);
        probe.rows();
        probe.latestAsking();
        probe.ledger();
        probe.indexes();
        probe.query();
        probe.newRow();
        return probe.seen;
    }

    /**
     * What only shows later: the misses of some queries one after the other, and what is left of a building. Each
     * beginning, below BEGINNINGS, takes an object by itself, since a query may hide what another one shows.
     */
    static List<String> hidden(SelfArranger x, int beginning) {
        Probe probe = new Probe(x);
        probe.pool(beginning);
        probe.building();
        return probe.seen;
    }

    private void see(String call, LongSupplier answer) {
        String told;
        try {
            told = String.valueOf(answer.getAsLong());
        } catch (RuntimeException e) {
            told = "throws." + e.getClass().getSimpleName();
        }
        seen.add(call + " " + told);
    }

    private void rows() {
        for (int r = 0; r < ROWS; r++) {
            for (int c = 0; c < 3; c++) {
                int row = r;
                int column = c;
                see("value(" + r + ", " + c + ")", () -> x.value(row, column));
            }
        }
    }

    private void latestAsking() {
        for (int k = 0; k < 4; k++) {
            int what = k;
            see("last(" + k + ")", () -> x.last(what));
        }
        for (int k = 0; k < ANSWERS; k++) {
            int place = k;
            see("answer(" + k + ")", () -> x.answer(place));
        }
    }

    private void ledger() {
        see("changes()", x::changes);
        see("shapes()", x::shapes);
        int count = x.shapes();
        for (int k = 0; k < count; k++) {
            for (int w = 0; w < 3; w++) {
                int place = k;
                int what = w;
                see("shape(" + k + ", " + w + ")", () -> x.shape(place, what));
            }
        }
        see("choose()", x::choose);
        see("costOf(511)", () -> x.costOf(511));
    }

    private void indexes() {
        see("cost(NONE)", () -> x.cost(SelfArranger.NONE));
        for (int i = 0; i < 9; i++) {
            int index = i;
            see("cost(" + i + ")", () -> x.cost(index));
            see("index(" + i + ", 0)", () -> x.index(index, 0));
            see("index(" + i + ", 3)", () -> x.index(index, 3));
        }
        see("index(0, 2)", () -> x.index(0, 2));
    }

    /** Conditions, order and limit show in the next answer. */
    private void query() {
        see("ask()", x::ask);
        latestAsking();
    }

    private void pool(int beginning) {
        x.order(SelfArranger.NONE, ROWS);
        for (int k = 0; k < 2 * BEGINNINGS; k++) {
            int[] values = QUERIES[(beginning + k) % BEGINNINGS];
            for (int c = 0; c < 3; c++) {
                x.where(c, values[c] == FREE ? 0 : 1, values[c], 0);
            }
            x.ask();
            see("last(3)", () -> x.last(3));
        }
    }

    private void building() {
        see("work(1)", () -> x.work(1));
        see("work(15)", () -> x.work(15));
        see("work(1)", () -> x.work(1));
        see("work(64)", () -> x.work(64));
    }

    private void newRow() {
        see("insert", () -> x.insert(1, 2, 3));
        see("changes()", x::changes);
        see("period()", x::period);
    }
}
