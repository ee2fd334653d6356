import java.util.ArrayList;
import java.util.Arrays;

/** A sheet for taking off quantities: drawings, rates, a tree of items, the bill and its claims. */
public final class TakeoffSheet {
    public static final int NONE = -1;
    public static final int EAST = 0, NORTH = 1, WEST = 2, SOUTH = 3;
    public static final int LABOUR = 0, PLANT = 1, MATERIAL = 2;

    private static final int LAST_PLACE = 40;
    private static final int MOST_STEPS = 40;
    private static final int LEAST_OTHER_PLACES = 3;
    private static final int MOST_OPENINGS = 10;
    private static final int LONGEST_SIDE = 40;
    private static final int MOST_LIMIT = 1600;
    private static final int MOST_RATES = 12;
    private static final int MOST_AMOUNT = 50;
    private static final int MOST_CENTS = 1000;
    private static final int MOST_ITEMS = 30;
    private static final int MOST_WASTE = 50;
    private static final int MOST_HEIGHT = 20;
    private static final int MOST_VARYING = 5000;
    private static final int MOST_VARIATION = 20000;
    private static final int MOST_RETENTION = 20;
    private static final int WHOLE = 100;

    private final Drawing drawing = new Drawing();
    private final ArrayList<Rate> rates = new ArrayList<>();
    private final ArrayList<Item> items = new ArrayList<>();
    private final int[] prices = {1, 1, 1};
    private int limit = 10;
    private int retention = 5;
    private long claimed = 0;

    public TakeoffSheet() {
    }

    // ---- drawing

    public void begin(int x, int y) throws IllegalArgumentException {
        checkRange(x, 0, LAST_PLACE);
        checkRange(y, 0, LAST_PLACE);
        drawing.startAt(x, y);
    }

    public boolean wall(int direction, int steps)
            throws IllegalArgumentException, IllegalStateException, IndexOutOfBoundsException {
        checkRange(direction, EAST, SOUTH);
        checkRange(steps, 1, MOST_STEPS);
        if (!drawing.begun || drawing.closed) {
            throw new IllegalStateException("no drawing that goes on");
        }
        if (!drawing.admits(direction, steps)) {
            throw new IndexOutOfBoundsException("the wall may not go there");
        }
        drawing.goOn(direction, steps);
        return drawing.closed;
    }

    public int opening(int width, int height) throws IllegalArgumentException, IllegalStateException {
        checkRange(width, 1, LONGEST_SIDE);
        checkRange(height, 1, LONGEST_SIDE);
        checkClosed();
        if (!drawing.addOpening(width * height)) {
            throw new IllegalStateException("no room for an opening");
        }
        return drawing.openingCount;
    }

    public int limit(int limit) throws IllegalArgumentException {
        checkRange(limit, 0, MOST_LIMIT);
        int before = this.limit;
        this.limit = limit;
        return before;
    }

    public int area() throws IllegalStateException {
        checkClosed();
        return drawing.areaByCorners();
    }

    public int areaByStrips() throws IllegalStateException {
        checkClosed();
        return drawing.squaresInside();
    }

    public int netArea() throws IllegalStateException {
        checkClosed();
        return drawing.areaLeft(limit);
    }

    // ---- rates and items

    public int rate(int labour, int plant, int material) throws IllegalArgumentException, IllegalStateException {
        checkRange(labour, 0, MOST_AMOUNT);
        checkRange(plant, 0, MOST_AMOUNT);
        checkRange(material, 0, MOST_AMOUNT);
        for (int i = 0; i < rates.size(); i++) {
            if (rates.get(i).isOf(labour, plant, material)) {
                return i;
            }
        }
        if (rates.size() >= MOST_RATES) {
            throw new IllegalStateException("no room for a rate");
        }
        rates.add(new Rate(labour, plant, material));
        return rates.size() - 1;
    }

    public int price(int kind, int cents) throws IllegalArgumentException {
        checkRange(kind, LABOUR, MATERIAL);
        checkRange(cents, 0, MOST_CENTS);
        int before = prices[kind];
        prices[kind] = cents;
        return before;
    }

    public int rateOf(int rate) throws IndexOutOfBoundsException {
        return priceOf(rateAt(rate));
    }

    public int heading(int parent) throws IndexOutOfBoundsException, IllegalStateException {
        return addItem(parentAt(parent), null, 0);
    }

    public int leaf(int parent, int rate, int waste)
            throws IndexOutOfBoundsException, IllegalArgumentException, IllegalStateException {
        Item above = parentAt(parent);
        Rate built = rateAt(rate);
        checkRange(waste, 0, MOST_WASTE);
        return addItem(above, built, waste);
    }

    public int items() {
        return items.size();
    }

    // ---- quantities

    public int take(int item, int height)
            throws IndexOutOfBoundsException, IllegalArgumentException, IllegalStateException {
        Item leaf = itemAt(item);
        checkRange(height, 1, MOST_HEIGHT);
        checkLeaf(leaf);
        checkClosed();
        leaf.measure += drawing.areaLeft(limit) * height;
        drawing.takeAway();
        return leaf.measure;
    }

    public int vary(int item, int quantity)
            throws IndexOutOfBoundsException, IllegalArgumentException, IllegalStateException {
        Item leaf = itemAt(item);
        checkRange(quantity, -MOST_VARYING, MOST_VARYING);
        checkLeaf(leaf);
        int variation = leaf.variation + quantity;
        if (variation < -MOST_VARIATION || variation > MOST_VARIATION) {
            throw new IllegalStateException("too great a variation");
        }
        leaf.variation = variation;
        return variation;
    }

    public int quantity(int item) throws IndexOutOfBoundsException, IllegalStateException {
        Item leaf = itemAt(item);
        checkLeaf(leaf);
        return (int) leaf.measureWithWaste();
    }

    // ---- the bill

    public long sum(int item) throws IndexOutOfBoundsException {
        Item top = itemAt(item);
        long sum = 0;
        for (int i = 0; i < items.size(); i++) {
            Item one = items.get(i);
            if (one.standsUnder(top)) {
                sum += ownSum(one);
            }
        }
        return sum;
    }

    public long total() {
        long total = 0;
        for (int i = 0; i < items.size(); i++) {
            total += ownSum(items.get(i));
        }
        return total;
    }

    public int dearest(int item) throws IndexOutOfBoundsException {
        Item top = itemAt(item);
        int dearest = NONE;
        // Below every sum, so that a leaf whose sum is 0 is found too.
        long greatest = -1;
        for (int i = 0; i < items.size(); i++) {
            Item one = items.get(i);
            if (one.isLeaf() && one.standsUnder(top) && ownSum(one) > greatest) {
                greatest = ownSum(one);
                dearest = i;
            }
        }
        return dearest;
    }

    // ---- claims

    public int done(int item, int done)
            throws IndexOutOfBoundsException, IllegalArgumentException, IllegalStateException {
        Item leaf = itemAt(item);
        checkRange(done, 0, WHOLE);
        checkLeaf(leaf);
        int before = leaf.done;
        leaf.done = done;
        return before;
    }

    public int retention(int hundredths) throws IllegalArgumentException {
        checkRange(hundredths, 0, MOST_RETENTION);
        int before = retention;
        retention = hundredths;
        return before;
    }

    public long worth() {
        long worth = 0;
        for (int i = 0; i < items.size(); i++) {
            Item one = items.get(i);
            worth += ownSum(one) * one.done / WHOLE;
        }
        return worth;
    }

    public long due() {
        long worth = worth();
        return worth - hundredthsRoundedUp(worth * retention);
    }

    public long claim() throws IllegalStateException {
        long claim = due() - claimed;
        if (claim <= 0) {
            throw new IllegalStateException("nothing to claim");
        }
        claimed += claim;
        return claim;
    }

    public long claimed() {
        return claimed;
    }

    // ---- checks

    private static void checkRange(int value, int least, int most) {
        if (value < least || value > most) {
            throw new IllegalArgumentException("out of its range");
        }
    }

    private void checkClosed() {
        if (!drawing.closed) {
            throw new IllegalStateException("no closed drawing");
        }
    }

    private static void checkLeaf(Item item) {
        if (!item.isLeaf()) {
            throw new IllegalStateException("the item is a heading");
        }
    }

    private Item itemAt(int item) {
        if (item < 0 || item >= items.size()) {
            throw new IndexOutOfBoundsException("no such item");
        }
        return items.get(item);
    }

    private Item parentAt(int parent) {
        return parent == NONE ? null : itemAt(parent);
    }

    private Rate rateAt(int rate) {
        if (rate < 0 || rate >= rates.size()) {
            throw new IndexOutOfBoundsException("no such rate");
        }
        return rates.get(rate);
    }

    // ---- parts of the calls

    private int addItem(Item parent, Rate rate, int waste) {
        if (parent != null && parent.isLeaf()) {
            throw new IllegalStateException("the parent is a leaf");
        }
        if (items.size() >= MOST_ITEMS) {
            throw new IllegalStateException("no room for an item");
        }
        items.add(new Item(parent, rate, waste));
        return items.size() - 1;
    }

    private int priceOf(Rate rate) {
        return rate.labour * prices[LABOUR] + rate.plant * prices[PLANT] + rate.material * prices[MATERIAL];
    }

    /** The sum of a leaf; a heading has none of its own. */
    private long ownSum(Item item) {
        if (item.rate == null) {
            return 0;
        }
        return Math.max(0, item.measureWithWaste() + item.variation) * priceOf(item.rate);
    }

    private static long hundredthsRoundedUp(long amount) {
        return (amount + WHOLE - 1) / WHOLE;
    }

    /** The one drawing of a sheet, made once and begun anew, so that no drawing needs new rows. */
    private static final class Drawing {
        /** Bit x of row y: the drawing has gone over the place. */
        final long[] over = new long[LAST_PLACE + 1];
        /** Bit x of row y: a wall joins the place and the next one to the north. */
        final long[] wallsNorth = new long[LAST_PLACE + 1];
        /** The products of width and height; one that is not in use is 0, which no limit takes off. */
        final int[] openings = new int[MOST_OPENINGS];
        int openingCount;
        int beginX, beginY;
        int x, y;
        int otherPlaces;
        int twiceArea;
        boolean begun, closed;

        void startAt(int startX, int startY) {
            Arrays.fill(over, 0L);
            Arrays.fill(wallsNorth, 0L);
            Arrays.fill(openings, 0);
            openingCount = 0;
            otherPlaces = 0;
            twiceArea = 0;
            beginX = startX;
            beginY = startY;
            x = startX;
            y = startY;
            mark(over, x, y);
            begun = true;
            closed = false;
        }

        void takeAway() {
            begun = false;
            closed = false;
        }

        boolean admits(int direction, int steps) {
            int eastward = eastward(direction);
            int northward = northward(direction);
            for (int step = 1; step < steps; step++) {
                if (!isFree(x + step * eastward, y + step * northward)) {
                    return false;
                }
            }
            int endX = x + steps * eastward;
            int endY = y + steps * northward;
            return isFree(endX, endY) || closesAt(endX, endY);
        }

        void goOn(int direction, int steps) {
            int eastward = eastward(direction);
            int northward = northward(direction);
            for (int step = 1; step <= steps; step++) {
                mark(over, x + step * eastward, y + step * northward);
            }
            int endX = x + steps * eastward;
            int endY = y + steps * northward;
            for (int row = Math.min(y, endY); row < Math.max(y, endY); row++) {
                mark(wallsNorth, x, row);
            }
            // What two corners in turn add to twice the area; its sign tells which way round the drawing goes.
            twiceArea += x * endY - endX * y;
            otherPlaces += steps;
            x = endX;
            y = endY;
            closed = x == beginX && y == beginY;
        }

        boolean addOpening(int size) {
            if (openingCount >= openings.length) {
                return false;
            }
            openings[openingCount] = size;
            openingCount++;
            return true;
        }

        int areaByCorners() {
            return Math.abs(twiceArea) / 2;
        }

        int squaresInside() {
            int squares = 0;
            for (int row = 0; row < LAST_PLACE; row++) {
                squares += squaresInStrip(row);
            }
            return squares;
        }

        int areaLeft(int limit) {
            int left = areaByCorners();
            for (int i = 0; i < openings.length; i++) {
                if (openings[i] > limit) {
                    left -= openings[i];
                }
            }
            return Math.max(0, left);
        }

        private int squaresInStrip(int row) {
            int squares = 0;
            boolean inside = false;
            for (int column = 0; column < LAST_PLACE; column++) {
                if (isMarked(wallsNorth, column, row)) {
                    inside = !inside;
                }
                if (inside) {
                    squares++;
                }
            }
            return squares;
        }

        private boolean isFree(int atX, int atY) {
            return isPlace(atX, atY) && !isMarked(over, atX, atY);
        }

        private boolean closesAt(int atX, int atY) {
            return atX == beginX && atY == beginY && otherPlaces >= LEAST_OTHER_PLACES;
        }

        private static int eastward(int direction) {
            return direction == EAST ? 1 : direction == WEST ? -1 : 0;
        }

        private static int northward(int direction) {
            return direction == NORTH ? 1 : direction == SOUTH ? -1 : 0;
        }

        /** Guards the rows of bits: each has an element for every y that passes here. */
        private static boolean isPlace(int x, int y) {
            return x >= 0 && x <= LAST_PLACE && y >= 0 && y <= LAST_PLACE;
        }

        private static void mark(long[] rows, int x, int y) {
            if (isPlace(x, y)) {
                rows[y] |= 1L << x;
            }
        }

        private static boolean isMarked(long[] rows, int x, int y) {
            return isPlace(x, y) && (rows[y] >> x & 1L) != 0;
        }
    }

    /** Amounts of labour, plant and material. */
    private static final class Rate {
        final int labour;
        final int plant;
        final int material;

        Rate(int labour, int plant, int material) {
            this.labour = labour;
            this.plant = plant;
            this.material = material;
        }

        boolean isOf(int someLabour, int somePlant, int someMaterial) {
            return labour == someLabour && plant == somePlant && material == someMaterial;
        }
    }

    /** A heading or a leaf: a leaf is what has a rate. */
    private static final class Item {
        final Item parent;
        final Rate rate;
        final int waste;
        int measure;
        int variation;
        int done;

        Item(Item parent, Rate rate, int waste) {
            this.parent = parent;
            this.rate = rate;
            this.waste = waste;
        }

        boolean isLeaf() {
            return rate != null;
        }

        boolean standsUnder(Item top) {
            for (Item up = this; up != null; up = up.parent) {
                if (up == top) {
                    return true;
                }
            }
            return false;
        }

        long measureWithWaste() {
            return hundredthsRoundedUp((long) measure * (WHOLE + waste));
        }
    }
}
