import java.util.ArrayList;
import java.util.Arrays;
import java.util.Comparator;
import java.util.LinkedHashMap;
import java.util.List;
import java.util.Map;
import java.util.TreeSet;

/**
 * The document's terms written down a second time, as literally as can be and without regard to speed: indexes are
 * made as lists of leaves and nodes, the pages have names, the side list holds rows.
 */
final class Model {
    private static final int[][] COLUMNS_OF = {{0}, {1}, {2}, {0, 1}, {0, 2}, {1, 0}, {1, 2}, {2, 0}, {2, 1}};

    private final List<int[]> rows = new ArrayList<>();
    private final int[] state = new int[9];
    private int[][] query = {{0, 0, 0}, {0, 0, 0}, {0, 0, 0}};
    private int order = -1;
    private int limit = 64;
    private final String[] frames;
    private final boolean[] marks;
    private int hand = 0;
    private final Map<Integer, int[][]> kept = new LinkedHashMap<>();
    private final Map<Integer, Integer> weights = new LinkedHashMap<>();
    private int changes = 0;
    private int budget = 16;
    private int building = -1;
    private int nextRow = 0;
    private final List<Integer> side = new ArrayList<>();
    private List<Integer> answer = new ArrayList<>();
    private final int[] last = {-1, 0, 0, 0};

    Model(int frames) {
        int n = frames < 2 ? 2 : frames > 16 ? 16 : frames;
        this.frames = new String[n];
        this.marks = new boolean[n];
    }

    int insert(int a, int b, int c) {
        for (int v : new int[] {a, b, c}) {
            needValue(v);
        }
        if (rows.size() == 64) {
            throw new UnsupportedOperationException();
        }
        rows.add(new int[] {a, b, c});
        changed(rows.size() - 1);
        return rows.size() - 1;
    }

    void delete(int row) {
        needRow(row);
        rows.set(row, null);
        changed(row);
    }

    void change(int row, int column, int v) {
        needRow(row);
        need(column >= 0 && column <= 2);
        needValue(v);
        rows.get(row)[column] = v;
        changed(row);
    }

    int value(int row, int column) {
        needRow(row);
        need(column >= 0 && column <= 2);
        return rows.get(row)[column];
    }

    void where(int column, int kind, int from, int to) {
        need(column >= 0 && column <= 2);
        if (kind != 0 && kind != 1 && kind != 2) {
            throw new IllegalArgumentException();
        }
        query = query.clone();
        query[column] = new int[] {kind, from, to};
    }

    void order(int column, int limit) {
        need(column >= -1 && column <= 2);
        if (limit < 0 || limit > 64) {
            throw new IllegalArgumentException();
        }
        this.order = column;
        this.limit = limit;
    }

    int ask() {
        int[] costs = wayCosts(query);
        int way = bestWay(costs, readySet());
        List<String> pages = pages(query, way);
        int misses = 0;
        for (String page : pages) {
            misses += touch(page) ? 1 : 0;
        }
        last[0] = way;
        last[1] = costs[way + 1];
        last[2] = pages.size();
        last[3] = misses;
        note();
        Comparator<Integer> byNumber = Comparator.naturalOrder();
        Comparator<Integer> byColumn = Comparator.comparingInt(r -> order == -1 ? 0 : rows.get(r)[order]);
        answer = there();
        answer.removeIf(r -> !(fits(query[0], rows.get(r)[0]) && fits(query[1], rows.get(r)[1])
                && fits(query[2], rows.get(r)[2])));
        answer.sort(byColumn.thenComparing(byNumber));
        answer = new ArrayList<>(answer.subList(0, Math.min(limit, answer.size())));
        return answer.size();
    }

    int answer(int k) {
        need(k >= 0 && k < answer.size());
        return answer.get(k);
    }

    int last(int what) {
        need(what >= 0 && what <= 3);
        return last[what];
    }

    int cost(int index) {
        need(index >= -1 && index <= 8);
        return wayCost(query, index);
    }

    int index(int index, int what) {
        need(index >= 0 && index <= 8 && what >= 0 && what <= 3);
        if (what == 0) {
            return state[index];
        }
        List<Integer> entries = entries(index);
        return what == 1 ? height(entries.size()) : what == 2 ? size(entries.size())
                : entries.isEmpty() ? -1 : entries.get(0);
    }

    int shapes() {
        return kept.size();
    }

    int shape(int k, int what) {
        need(k >= 0 && k < kept.size() && what >= 0 && what <= 2);
        int code = new ArrayList<>(kept.keySet()).get(k);
        if (what == 2) {
            int[] costs = wayCosts(kept.get(code));
            return costs[bestWay(costs, readySet()) + 1];
        }
        return what == 0 ? weights.get(code) : code;
    }

    int changes() {
        return changes;
    }

    int period() {
        weights.replaceAll((code, weight) -> (int) Math.floor(weight * 0.75));
        changes = (int) Math.floor(changes * 0.75);
        weights.values().removeIf(weight -> weight == 0);
        kept.keySet().retainAll(weights.keySet());
        return kept.size();
    }

    void budget(int pages) {
        if (pages < 0 || pages > 200) {
            throw new IllegalArgumentException();
        }
        budget = pages;
    }

    int choose() {
        int size = size(there().size());
        int height = height(there().size());
        Map<Integer, int[]> costs = shapeCosts();
        int best = -1;
        long bestCost = 0;
        for (int set = 511; set >= 0; set--) {
            if (Integer.bitCount(set) * size > budget) {
                continue;
            }
            long cost = setCost(set, costs, height);
            if (best == -1 || cost < bestCost
                    || cost == bestCost && Integer.bitCount(set) <= Integer.bitCount(best)) {
                best = set;
                bestCost = cost;
            }
        }
        return best;
    }

    long costOf(int set) {
        if (set < 0 || set > 511) {
            throw new IllegalArgumentException();
        }
        return setCost(set, shapeCosts(), height(there().size()));
    }

    void build(int index) {
        need(index >= 0 && index <= 8);
        if (state[index] != 0 || building != -1) {
            throw new IllegalStateException();
        }
        state[index] = 1;
        building = index;
        nextRow = 0;
        side.clear();
        readyIfNothingIsLeft();
    }

    int work(int n) {
        if (n < 1 || n > 64) {
            throw new IllegalArgumentException();
        }
        if (building == -1) {
            throw new IllegalStateException();
        }
        for (int k = 0; k < n; k++) {
            if (nextRow < rows.size()) {
                nextRow++;
            } else if (!side.isEmpty()) {
                side.remove(0);
            }
        }
        return readyIfNothingIsLeft();
    }

    boolean drop(int index) {
        need(index >= 0 && index <= 8);
        boolean was = state[index] != 0;
        state[index] = 0;
        if (building == index) {
            building = -1;
        }
        return was;
    }

    private static void need(boolean holds) {
        if (!holds) {
            throw new IndexOutOfBoundsException();
        }
    }

    private void needRow(int row) {
        need(row >= 0 && row < rows.size() && rows.get(row) != null);
    }

    private static void needValue(int v) {
        if (v < -1000 || v > 1000) {
            throw new IllegalArgumentException();
        }
    }

    private void changed(int row) {
        changes += 4;
        if (building != -1 && row < nextRow) {
            side.add(row);
        }
    }

    private int readyIfNothingIsLeft() {
        int left = rows.size() - nextRow + side.size();
        if (left == 0) {
            state[building] = 2;
            building = -1;
        }
        return left;
    }

    private List<Integer> there() {
        List<Integer> there = new ArrayList<>();
        for (int r = 0; r < rows.size(); r++) {
            if (rows.get(r) != null) {
                there.add(r);
            }
        }
        return there;
    }

    private List<Integer> entries(int index) {
        List<Integer> entries = there();
        entries.sort((r, s) -> {
            for (int column : COLUMNS_OF[index]) {
                if (rows.get(r)[column] != rows.get(s)[column]) {
                    return Integer.compare(rows.get(r)[column], rows.get(s)[column]);
                }
            }
            return Integer.compare(r, s);
        });
        return entries;
    }

    /** How many leaves there are, then how many nodes on each level. */
    private static List<Integer> levels(int entries) {
        List<Integer> levels = new ArrayList<>();
        levels.add(entries == 0 ? 1 : (int) Math.ceil(entries / 4.0));
        while (levels.get(levels.size() - 1) > 1) {
            levels.add((int) Math.ceil(levels.get(levels.size() - 1) / 4.0));
        }
        return levels;
    }

    private static int height(int entries) {
        return levels(entries).size() - 1;
    }

    private static int size(int entries) {
        return levels(entries).stream().mapToInt(n -> n).sum();
    }

    private static boolean fits(int[] condition, int v) {
        switch (condition[0]) {
            case 0:
                return true;
            case 1:
                return v == condition[1];
            default:
                return v >= condition[1] && v <= condition[2];
        }
    }

    private static boolean secondCounts(int[][] conditions, int index) {
        int[] columns = COLUMNS_OF[index];
        return columns.length == 2 && conditions[columns[0]][0] == 1 && conditions[columns[1]][0] != 0;
    }

    private List<Integer> stretch(int[][] conditions, int index) {
        int[] columns = COLUMNS_OF[index];
        List<Integer> stretch = entries(index);
        stretch.removeIf(r -> !fits(conditions[columns[0]], rows.get(r)[columns[0]])
                || secondCounts(conditions, index) && !fits(conditions[columns[1]], rows.get(r)[columns[1]]));
        return stretch;
    }

    /** The leaves that have entries of the stretch, or the one that is touched without any. */
    private TreeSet<Integer> leaves(int[][] conditions, int index) {
        List<Integer> entries = entries(index);
        TreeSet<Integer> leaves = new TreeSet<>();
        for (int r : stretch(conditions, index)) {
            leaves.add(entries.indexOf(r) / 4);
        }
        if (!leaves.isEmpty()) {
            return leaves;
        }
        for (int k = 0; k < entries.size(); k++) {
            if (!isBefore(conditions, index, entries.get(k))) {
                leaves.add(k / 4);
                return leaves;
            }
        }
        leaves.add(levels(entries.size()).get(0) - 1);
        return leaves;
    }

    private boolean isBefore(int[][] conditions, int index, int row) {
        int[] columns = COLUMNS_OF[index];
        int v = rows.get(row)[columns[0]];
        int from = conditions[columns[0]][1];
        if (v != from || !secondCounts(conditions, index)) {
            return v < from;
        }
        return rows.get(row)[columns[1]] < conditions[columns[1]][1];
    }

    private int heapPages() {
        return (int) Math.ceil(rows.size() / 4.0);
    }

    private int wayCost(int[][] conditions, int way) {
        if (way == -1) {
            return heapPages();
        }
        if (conditions[COLUMNS_OF[way][0]][0] == 0) {
            return -1;
        }
        return height(there().size()) + leaves(conditions, way).size() + stretch(conditions, way).size();
    }

    /** The cost of the heap, then those of the indexes. */
    private int[] wayCosts(int[][] conditions) {
        int[] costs = new int[10];
        for (int way = -1; way <= 8; way++) {
            costs[way + 1] = wayCost(conditions, way);
        }
        return costs;
    }

    private Map<Integer, int[]> shapeCosts() {
        Map<Integer, int[]> costs = new LinkedHashMap<>();
        kept.forEach((code, conditions) -> costs.put(code, wayCosts(conditions)));
        return costs;
    }

    private long setCost(int set, Map<Integer, int[]> shapeCosts, int height) {
        long sum = 0;
        for (int code : shapeCosts.keySet()) {
            int[] costs = shapeCosts.get(code);
            sum += (long) weights.get(code) * costs[bestWay(costs, set) + 1];
        }
        for (int i = 0; i < 9; i++) {
            sum += (set & 1 << i) != 0 ? changes * (height + 1L) : 0;
        }
        return sum;
    }

    private int readySet() {
        int set = 0;
        for (int i = 0; i < 9; i++) {
            set += state[i] == 2 ? 1 << i : 0;
        }
        return set;
    }

    private static int bestWay(int[] costs, int set) {
        int best = -1;
        for (int i = 8; i >= 0; i--) {
            boolean isWay = (set & 1 << i) != 0 && costs[i + 1] != -1 && costs[i + 1] < costs[0];
            if (isWay && (best == -1 || costs[i + 1] <= costs[best + 1])) {
                best = i;
            }
        }
        return best;
    }

    private List<String> pages(int[][] conditions, int way) {
        List<String> pages = new ArrayList<>();
        if (way == -1) {
            for (int p = 0; p < heapPages(); p++) {
                pages.add("heap " + p);
            }
            return pages;
        }
        TreeSet<Integer> leaves = leaves(conditions, way);
        for (int level = height(there().size()); level >= 1; level--) {
            pages.add("index " + way + " level " + level + " node " + leaves.first() / (int) Math.pow(4, level));
        }
        for (int leaf : leaves) {
            pages.add("index " + way + " leaf " + leaf);
        }
        for (int row : stretch(conditions, way)) {
            pages.add("heap " + row / 4);
        }
        return pages;
    }

    private boolean touch(String page) {
        int frame = Arrays.asList(frames).indexOf(page);
        if (frame != -1) {
            marks[frame] = true;
            return false;
        }
        while (marks[hand]) {
            marks[hand] = false;
            hand = (hand + 1) % frames.length;
        }
        frames[hand] = page;
        marks[hand] = true;
        hand = (hand + 1) % frames.length;
        return true;
    }

    private void note() {
        int code = query[0][0] + 3 * query[1][0] + 9 * query[2][0];
        if (kept.containsKey(code) || kept.size() < 8) {
            weights.merge(code, 16, Integer::sum);
            kept.put(code, query);
        }
    }
}
