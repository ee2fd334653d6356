/** Promises 15 to 17: take, vary, quantity. */
final class QuantitiesTest {
    private static final Due DUE = new Due();

    public static void main(String[] args) {
        promise15Take();
        promise15TakeRefusals();
        promise16Vary();
        promise16VaryBounds();
        promise17Quantity();
        DUE.end("QuantitiesTest");
    }

    private static void promise15Take() {
        TakeoffSheet sheet = Sheets.withLeaf(0);
        Sheets.rectangle(sheet, 5, 4);
        sheet.opening(4, 3);
        DUE.answers("the net area times the height", 24, () -> sheet.take(0, 3));
        DUE.refuses("no drawing then: area", Due.STATE, sheet::area);
        DUE.refuses("no drawing then: netArea", Due.STATE, sheet::netArea);
        DUE.refuses("no drawing then: wall", Due.STATE, () -> sheet.wall(TakeoffSheet.EAST, 1));
        DUE.refuses("no drawing then: opening", Due.STATE, () -> sheet.opening(1, 1));
        DUE.refuses("no drawing then: take", Due.STATE, () -> sheet.take(0, 1));
        Sheets.rectangle(sheet, 40, 40);
        DUE.answers("added to the measure, the greatest height", 32024, () -> sheet.take(0, 20));
        Sheets.rectangle(sheet, 1, 1);
        sheet.opening(40, 40);
        DUE.answers("a net area of 0", 32024, () -> sheet.take(0, 20));
        DUE.refuses("no drawing then either", Due.STATE, sheet::area);
        Sheets.rectangle(sheet, 5, 5);
        sheet.opening(3, 4);
        sheet.limit(12);
        DUE.answers("the limit when it is taken", 32049, () -> sheet.take(0, 1));
        DUE.answers("the quantity has no part in the sum's variation", 32049, () -> sheet.quantity(0));
        DUE.answers("the sum", 32049, () -> sheet.sum(0));
    }

    private static void promise15TakeRefusals() {
        TakeoffSheet sheet = Sheets.withTree();
        DUE.refuses("no drawing", Due.STATE, () -> sheet.take(2, 1));
        sheet.begin(0, 0);
        Sheets.draw(sheet, "E3 N3 W3");
        DUE.refuses("an open drawing", Due.STATE, () -> sheet.take(2, 1));
        DUE.says("which goes on", true, Sheets.draw(sheet, "S3"));
        for (int wrong : new int[] {-1, 5, 30, Integer.MIN_VALUE, Integer.MAX_VALUE}) {
            DUE.refuses("item " + wrong, Due.INDEX, () -> sheet.take(wrong, 1));
            DUE.refuses("item before height", Due.INDEX, () -> sheet.take(wrong, 0));
        }
        for (int wrong : new int[] {0, 21, -1, Integer.MIN_VALUE, Integer.MAX_VALUE}) {
            DUE.refuses("height " + wrong, Due.ARGUMENT, () -> sheet.take(2, wrong));
            DUE.refuses("height before heading", Due.ARGUMENT, () -> sheet.take(1, wrong));
        }
        DUE.refuses("a heading", Due.STATE, () -> sheet.take(1, 1));
        DUE.answers("the drawing is still there", 9, sheet::netArea);
        DUE.answers("and is taken", 9, () -> sheet.take(2, 1));
    }

    private static void promise16Vary() {
        TakeoffSheet sheet = Sheets.withTree();
        DUE.answers("up", 12, () -> sheet.vary(2, 12));
        DUE.answers("down, below 0", -8, () -> sheet.vary(2, -20));
        DUE.answers("by nothing", -8, () -> sheet.vary(2, 0));
        DUE.answers("another leaf", 1, () -> sheet.vary(3, 1));
        for (int wrong : new int[] {-1, 5, 30, Integer.MIN_VALUE, Integer.MAX_VALUE}) {
            DUE.refuses("item " + wrong, Due.INDEX, () -> sheet.vary(wrong, 1));
            DUE.refuses("item before quantity", Due.INDEX, () -> sheet.vary(wrong, 5001));
        }
        for (int wrong : new int[] {-5001, 5001, Integer.MIN_VALUE, Integer.MAX_VALUE}) {
            DUE.refuses("quantity " + wrong, Due.ARGUMENT, () -> sheet.vary(2, wrong));
            DUE.refuses("quantity before heading", Due.ARGUMENT, () -> sheet.vary(0, wrong));
        }
        DUE.refuses("a heading", Due.STATE, () -> sheet.vary(0, 1));
        DUE.answers("nothing has changed", -8, () -> sheet.vary(2, 0));
    }

    private static void promise16VaryBounds() {
        TakeoffSheet sheet = Sheets.withLeaf(0);
        for (int sign = -1; sign <= 1; sign += 2) {
            int one = sign;
            int there = 5000 * sign;
            for (int i = 1; i <= 4; i++) {
                DUE.answers("the most at once", there * i, () -> sheet.vary(0, there));
            }
            DUE.refuses("beyond 20000", Due.STATE, () -> sheet.vary(0, one));
            DUE.refuses("far beyond 20000", Due.STATE, () -> sheet.vary(0, there));
            DUE.answers("still 20000", 20000 * sign, () -> sheet.vary(0, 0));
            for (int i = 3; i >= 0; i--) {
                DUE.answers("back", there * i, () -> sheet.vary(0, -there));
            }
        }
    }

    private static void roundedUp(int width, int height, int waste, int quantity) {
        TakeoffSheet sheet = Sheets.withLeaf(waste);
        Sheets.rectangle(sheet, width, height);
        sheet.take(0, 1);
        DUE.answers(width * height + " with waste " + waste, quantity, () -> sheet.quantity(0));
    }

    private static void promise17Quantity() {
        roundedUp(1, 1, 0, 1);
        roundedUp(1, 1, 1, 2);
        roundedUp(10, 10, 1, 101);
        roundedUp(5, 2, 10, 11);
        roundedUp(3, 1, 33, 4);
        roundedUp(33, 3, 1, 100);
        roundedUp(40, 40, 50, 2400);
        TakeoffSheet sheet = Sheets.withTree();
        DUE.answers("without a measure", 0, () -> sheet.quantity(2));
        sheet.vary(2, 100);
        DUE.answers("without its variation", 0, () -> sheet.quantity(2));
        for (int wrong : new int[] {-1, 5, 30, Integer.MIN_VALUE, Integer.MAX_VALUE}) {
            DUE.refuses("item " + wrong, Due.INDEX, () -> sheet.quantity(wrong));
        }
        DUE.refuses("a heading", Due.STATE, () -> sheet.quantity(1));
    }
}
