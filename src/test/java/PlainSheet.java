import java.math.BigInteger;
import java.util.ArrayList;
import java.util.LinkedHashSet;
import java.util.List;
import java.util.Set;

/**
 * The document again in the slowest and plainest way, to compare long runs with: places are texts, areas are
 * found by flooding from outside, sums go down from parents to children, fractions are BigIntegers.
 * A call that throws answers the name of its exception.
 */
final class PlainSheet {
    private static final int[] DX = {1, 0, -1, 0};
    private static final int[] DY = {0, 1, 0, -1};
    static final String ARGUMENT = "IllegalArgumentException";
    static final String STATE = "IllegalStateException";
    static final String INDEX = "IndexOutOfBoundsException";

    private static final class Row {
        int parent;
        int rate;
        int waste;
        int done;
        long measure;
        long variation;
        boolean leaf;
    }

    private Set<String> walls;
    private List<int[]> path;
    private List<Integer> openings;
    private boolean closed;
    private int limit = 10;
    private final List<List<Integer>> rates = new ArrayList<>();
    private final List<Row> rows = new ArrayList<>();
    private final long[] prices = {1, 1, 1};
    private int retention = 5;
    private long claimed = 0;

    private static boolean in(int value, int least, int most) {
        return least <= value && value <= most;
    }

    private boolean isItem(int item) {
        return in(item, 0, rows.size() - 1);
    }

    private boolean hasClosed() {
        return path != null && closed;
    }

    String begin(int x, int y) {
        if (!in(x, 0, 40) || !in(y, 0, 40)) {
            return ARGUMENT;
        }
        path = new ArrayList<>(List.of(new int[] {x, y}));
        walls = new LinkedHashSet<>();
        openings = new ArrayList<>();
        closed = false;
        return "0";
    }

    String wall(int direction, int steps) {
        if (!in(direction, 0, 3) || !in(steps, 1, 40)) {
            return ARGUMENT;
        }
        if (path == null || closed) {
            return STATE;
        }
        List<int[]> further = new ArrayList<>(path);
        boolean closes = false;
        for (int i = 1; i <= steps; i++) {
            int[] from = further.get(further.size() - 1);
            int[] to = {from[0] + DX[direction], from[1] + DY[direction]};
            if (!in(to[0], 0, 40) || !in(to[1], 0, 40)) {
                return INDEX;
            }
            closes = i == steps && same(to, path.get(0)) && further.size() - 1 >= 3;
            if (!closes && further.stream().anyMatch(place -> same(place, to))) {
                return INDEX;
            }
            further.add(to);
        }
        for (int i = path.size(); i < further.size(); i++) {
            walls.add(joint(further.get(i - 1), further.get(i)));
        }
        path = further;
        closed = closes;
        return closed ? "1" : "0";
    }

    private static boolean same(int[] one, int[] other) {
        return one[0] == other[0] && one[1] == other[1];
    }

    private static String joint(int[] one, int[] other) {
        return Math.min(one[0], other[0]) + "," + Math.min(one[1], other[1]) + (one[0] == other[0] ? "up" : "across");
    }

    String opening(int width, int height) {
        if (!in(width, 1, 40) || !in(height, 1, 40)) {
            return ARGUMENT;
        }
        if (!hasClosed() || openings.size() == 10) {
            return STATE;
        }
        openings.add(width * height);
        return "" + openings.size();
    }

    String limit(int newLimit) {
        if (!in(newLimit, 0, 1600)) {
            return ARGUMENT;
        }
        int before = limit;
        limit = newLimit;
        return "" + before;
    }

    String area() {
        return hasClosed() ? "" + flooded() : STATE;
    }

    String netArea() {
        return hasClosed() ? "" + net() : STATE;
    }

    private int net() {
        int off = openings.stream().filter(size -> size > limit).mapToInt(size -> size).sum();
        return Math.max(0, flooded() - off);
    }

    /** Squares -1 to 40, flooded from the square at -1, -1; what stays dry is inside. */
    private int flooded() {
        boolean[][] wet = new boolean[42][42];
        List<int[]> open = new ArrayList<>(List.of(new int[] {-1, -1}));
        wet[0][0] = true;
        int count = 1;
        while (!open.isEmpty()) {
            int[] at = open.remove(open.size() - 1);
            for (int direction = 0; direction < 4; direction++) {
                int x = at[0] + DX[direction];
                int y = at[1] + DY[direction];
                if (!in(x, -1, 40) || !in(y, -1, 40) || wet[x + 1][y + 1]) {
                    continue;
                }
                String upright = Math.max(x, at[0]) + "," + y + "up";
                String level = x + "," + Math.max(y, at[1]) + "across";
                String between = DX[direction] != 0 ? upright : level;
                if (!walls.contains(between)) {
                    wet[x + 1][y + 1] = true;
                    count++;
                    open.add(new int[] {x, y});
                }
            }
        }
        return 42 * 42 - count;
    }

    String rate(int labour, int plant, int material) {
        if (!in(labour, 0, 50) || !in(plant, 0, 50) || !in(material, 0, 50)) {
            return ARGUMENT;
        }
        List<Integer> amounts = List.of(labour, plant, material);
        if (!rates.contains(amounts)) {
            if (rates.size() == 12) {
                return STATE;
            }
            rates.add(amounts);
        }
        return "" + rates.indexOf(amounts);
    }

    String price(int kind, int cents) {
        if (!in(kind, 0, 2) || !in(cents, 0, 1000)) {
            return ARGUMENT;
        }
        long before = prices[kind];
        prices[kind] = cents;
        return "" + before;
    }

    private long cents(int rate) {
        long cents = 0;
        for (int kind = 0; kind < 3; kind++) {
            cents += prices[kind] * rates.get(rate).get(kind);
        }
        return cents;
    }

    String rateOf(int rate) {
        return in(rate, 0, rates.size() - 1) ? "" + cents(rate) : INDEX;
    }

    String heading(int parent) {
        return parent != -1 && !isItem(parent) ? INDEX : add(parent, 0, 0, false);
    }

    String leaf(int parent, int rate, int waste) {
        if (parent != -1 && !isItem(parent) || !in(rate, 0, rates.size() - 1)) {
            return INDEX;
        }
        return in(waste, 0, 50) ? add(parent, rate, waste, true) : ARGUMENT;
    }

    private String add(int parent, int rate, int waste, boolean leaf) {
        if (parent != -1 && rows.get(parent).leaf || rows.size() == 30) {
            return STATE;
        }
        Row row = new Row();
        row.parent = parent;
        row.rate = rate;
        row.waste = waste;
        row.leaf = leaf;
        rows.add(row);
        return "" + (rows.size() - 1);
    }

    String items() {
        return "" + rows.size();
    }

    String take(int item, int height) {
        if (!isItem(item)) {
            return INDEX;
        }
        if (!in(height, 1, 20)) {
            return ARGUMENT;
        }
        if (!rows.get(item).leaf || !hasClosed()) {
            return STATE;
        }
        rows.get(item).measure += (long) net() * height;
        path = null;
        return "" + rows.get(item).measure;
    }

    String vary(int item, int quantity) {
        if (!isItem(item)) {
            return INDEX;
        }
        if (!in(quantity, -5000, 5000)) {
            return ARGUMENT;
        }
        Row row = rows.get(item);
        if (!row.leaf || Math.abs(row.variation + quantity) > 20000) {
            return STATE;
        }
        row.variation += quantity;
        return "" + row.variation;
    }

    private static BigInteger hundredths(long value, long hundredths, boolean up) {
        BigInteger[] parts = BigInteger.valueOf(value).multiply(BigInteger.valueOf(hundredths))
                .divideAndRemainder(BigInteger.valueOf(100));
        return up && parts[1].signum() > 0 ? parts[0].add(BigInteger.ONE) : parts[0];
    }

    private long quantityOf(Row row) {
        return hundredths(row.measure, 100 + row.waste, true).longValueExact();
    }

    String quantity(int item) {
        if (!isItem(item)) {
            return INDEX;
        }
        return rows.get(item).leaf ? "" + quantityOf(rows.get(item)) : STATE;
    }

    private long sumOf(int item) {
        Row row = rows.get(item);
        if (row.leaf) {
            return Math.max(0, quantityOf(row) + row.variation) * cents(row.rate);
        }
        long sum = 0;
        for (int child = 0; child < rows.size(); child++) {
            if (rows.get(child).parent == item) {
                sum += sumOf(child);
            }
        }
        return sum;
    }

    String sum(int item) {
        return isItem(item) ? "" + sumOf(item) : INDEX;
    }

    String total() {
        long total = 0;
        for (int i = 0; i < rows.size(); i++) {
            total += rows.get(i).parent == -1 ? sumOf(i) : 0;
        }
        return "" + total;
    }

    String dearest(int item) {
        return isItem(item) ? "" + dearestOf(item) : INDEX;
    }

    private int dearestOf(int item) {
        if (rows.get(item).leaf) {
            return item;
        }
        int best = -1;
        for (int child = item + 1; child < rows.size(); child++) {
            int one = rows.get(child).parent == item ? dearestOf(child) : -1;
            boolean dearer = one != -1 && (best == -1 || sumOf(one) > sumOf(best));
            boolean lower = one != -1 && best != -1 && sumOf(one) == sumOf(best) && one < best;
            best = dearer || lower ? one : best;
        }
        return best;
    }

    String done(int item, int done) {
        if (!isItem(item)) {
            return INDEX;
        }
        if (!in(done, 0, 100)) {
            return ARGUMENT;
        }
        Row row = rows.get(item);
        if (!row.leaf) {
            return STATE;
        }
        int before = row.done;
        row.done = done;
        return "" + before;
    }

    String retention(int hundredths) {
        if (!in(hundredths, 0, 20)) {
            return ARGUMENT;
        }
        int before = retention;
        retention = hundredths;
        return "" + before;
    }

    private long worthOfAll() {
        long worth = 0;
        for (int i = 0; i < rows.size(); i++) {
            worth += rows.get(i).leaf ? hundredths(sumOf(i), rows.get(i).done, false).longValueExact() : 0;
        }
        return worth;
    }

    private long dueNow() {
        return worthOfAll() - hundredths(worthOfAll(), retention, true).longValueExact();
    }

    String worth() {
        return "" + worthOfAll();
    }

    String due() {
        return "" + dueNow();
    }

    String claim() {
        long claim = dueNow() - claimed;
        if (claim <= 0) {
            return STATE;
        }
        claimed += claim;
        return "" + claim;
    }

    String claimed() {
        return "" + claimed;
    }
}
