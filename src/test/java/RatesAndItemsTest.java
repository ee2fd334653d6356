/** Promises 9 to 14: rate, price, rateOf, heading, leaf, items. */
final class RatesAndItemsTest {
    private static final int NONE = TakeoffSheet.NONE;
    private static final Due DUE = new Due();

    public static void main(String[] args) {
        promise9Rate();
        promise9RateIsFull();
        promise10Price();
        promise11RateOf();
        promise12Heading();
        promise13Leaf();
        promise13LeafRefusals();
        promise14Items();
        promises12And13ItemsAreFull();
        DUE.end("RatesAndItemsTest");
    }

    private static void promise9Rate() {
        TakeoffSheet sheet = new TakeoffSheet();
        for (int wrong : new int[] {-1, 51, Integer.MIN_VALUE, Integer.MAX_VALUE}) {
            DUE.refuses("labour " + wrong, Due.ARGUMENT, () -> sheet.rate(wrong, 0, 0));
            DUE.refuses("plant " + wrong, Due.ARGUMENT, () -> sheet.rate(0, wrong, 0));
            DUE.refuses("material " + wrong, Due.ARGUMENT, () -> sheet.rate(0, 0, wrong));
        }
        DUE.answers("the first rate", 0, () -> sheet.rate(50, 50, 50));
        DUE.answers("another in material", 1, () -> sheet.rate(50, 50, 0));
        DUE.answers("another in plant", 2, () -> sheet.rate(50, 0, 50));
        DUE.answers("another in labour", 3, () -> sheet.rate(0, 50, 50));
        DUE.answers("all 0", 4, () -> sheet.rate(0, 0, 0));
        DUE.answers("the first again", 0, () -> sheet.rate(50, 50, 50));
        DUE.answers("the third again", 2, () -> sheet.rate(50, 0, 50));
        DUE.answers("a new one", 5, () -> sheet.rate(1, 2, 3));
        DUE.answers("the same amounts of others", 6, () -> sheet.rate(3, 2, 1));
        DUE.answers("the same price is not the same rate", 7, () -> sheet.rate(6, 0, 0));
    }

    private static void promise9RateIsFull() {
        TakeoffSheet sheet = new TakeoffSheet();
        for (int i = 0; i < 12; i++) {
            int labour = i;
            DUE.answers("rate " + i, i, () -> sheet.rate(labour, 1, 1));
        }
        DUE.refuses("a rate beyond 12", Due.STATE, () -> sheet.rate(12, 1, 1));
        DUE.refuses("a range before the count", Due.ARGUMENT, () -> sheet.rate(12, 51, 1));
        DUE.answers("a known rate of 12", 11, () -> sheet.rate(11, 1, 1));
        DUE.refuses("no rate 12", Due.INDEX, () -> sheet.rateOf(12));
    }

    private static void promise10Price() {
        TakeoffSheet sheet = new TakeoffSheet();
        for (int wrong : new int[] {-1, 3, Integer.MIN_VALUE, Integer.MAX_VALUE}) {
            DUE.refuses("kind " + wrong, Due.ARGUMENT, () -> sheet.price(wrong, 1));
        }
        for (int wrong : new int[] {-1, 1001, Integer.MIN_VALUE, Integer.MAX_VALUE}) {
            DUE.refuses("cents " + wrong, Due.ARGUMENT, () -> sheet.price(TakeoffSheet.PLANT, wrong));
        }
        DUE.answers("labour at first", 1, () -> sheet.price(TakeoffSheet.LABOUR, 1000));
        DUE.answers("plant at first", 1, () -> sheet.price(TakeoffSheet.PLANT, 0));
        DUE.answers("material at first", 1, () -> sheet.price(TakeoffSheet.MATERIAL, 7));
        DUE.answers("labour before", 1000, () -> sheet.price(TakeoffSheet.LABOUR, 2));
        DUE.answers("plant before", 0, () -> sheet.price(TakeoffSheet.PLANT, 3));
        DUE.answers("material before", 7, () -> sheet.price(TakeoffSheet.MATERIAL, 4));
        sheet.rate(1, 10, 20);
        DUE.answers("the prices hold", 2 + 30 + 80, () -> sheet.rateOf(0));
    }

    private static void promise11RateOf() {
        TakeoffSheet sheet = new TakeoffSheet();
        DUE.refuses("no rate yet", Due.INDEX, () -> sheet.rateOf(0));
        sheet.rate(2, 3, 4);
        sheet.rate(50, 50, 50);
        sheet.rate(0, 0, 0);
        DUE.answers("at the first prices", 9, () -> sheet.rateOf(0));
        sheet.price(TakeoffSheet.LABOUR, 10);
        DUE.answers("labour dearer", 27, () -> sheet.rateOf(0));
        sheet.price(TakeoffSheet.PLANT, 100);
        DUE.answers("plant dearer", 324, () -> sheet.rateOf(0));
        sheet.price(TakeoffSheet.MATERIAL, 1000);
        DUE.answers("material dearer", 4320, () -> sheet.rateOf(0));
        sheet.price(TakeoffSheet.LABOUR, 1000);
        sheet.price(TakeoffSheet.PLANT, 1000);
        DUE.answers("the greatest price", 150000, () -> sheet.rateOf(1));
        DUE.answers("a rate of nothing", 0, () -> sheet.rateOf(2));
        for (int wrong : new int[] {-1, 3, 12, Integer.MIN_VALUE, Integer.MAX_VALUE}) {
            DUE.refuses("rate " + wrong, Due.INDEX, () -> sheet.rateOf(wrong));
        }
    }

    private static void promise12Heading() {
        TakeoffSheet sheet = new TakeoffSheet();
        for (int wrong : new int[] {0, -2, 30, Integer.MIN_VALUE, Integer.MAX_VALUE}) {
            DUE.refuses("parent " + wrong, Due.INDEX, () -> sheet.heading(wrong));
        }
        DUE.answers("the first", 0, () -> sheet.heading(NONE));
        DUE.answers("another without a parent", 1, () -> sheet.heading(NONE));
        DUE.answers("one in the first", 2, () -> sheet.heading(0));
        DUE.answers("one in that", 3, () -> sheet.heading(2));
        DUE.refuses("a parent that is not there yet", Due.INDEX, () -> sheet.heading(4));
        sheet.rate(1, 1, 1);
        sheet.leaf(3, 0, 0);
        DUE.refuses("a leaf as the parent", Due.STATE, () -> sheet.heading(4));
        DUE.answers("nothing was added", 5, sheet::items);
        sheet.leaf(1, 0, 0);
        sheet.vary(4, 5);
        sheet.vary(5, 7);
        DUE.answers("the sum of 2 is in 0", 15, () -> sheet.sum(0));
        DUE.answers("the sum of 1", 21, () -> sheet.sum(1));
    }

    private static void promise13Leaf() {
        TakeoffSheet sheet = new TakeoffSheet();
        sheet.rate(1, 0, 0);
        sheet.rate(9, 0, 0);
        DUE.answers("without a parent, the least waste", 0, () -> sheet.leaf(NONE, 1, 0));
        DUE.answers("its measure and variation are 0", 0, () -> sheet.sum(0));
        DUE.answers("its quantity is 0", 0, () -> sheet.quantity(0));
        DUE.answers("it is done by 0", 0, () -> sheet.done(0, 0));
        sheet.heading(NONE);
        DUE.answers("in a heading, the greatest waste", 2, () -> sheet.leaf(1, 0, 50));
        sheet.vary(0, 2);
        sheet.vary(2, 3);
        DUE.answers("the sum by its rate", 18, () -> sheet.sum(0));
        DUE.answers("the sum by the other rate", 3, () -> sheet.sum(2));
        DUE.answers("the sum of its parent", 3, () -> sheet.sum(1));
        Sheets.rectangle(sheet, 10, 10);
        sheet.take(2, 1);
        DUE.answers("its waste", 150, () -> sheet.quantity(2));
    }

    private static void promise13LeafRefusals() {
        TakeoffSheet sheet = new TakeoffSheet();
        sheet.heading(NONE);
        DUE.refuses("no rate yet", Due.INDEX, () -> sheet.leaf(0, 0, 0));
        sheet.rate(1, 0, 0);
        sheet.leaf(0, 0, 0);
        for (int wrong : new int[] {-2, 2, Integer.MIN_VALUE, Integer.MAX_VALUE}) {
            DUE.refuses("parent " + wrong, Due.INDEX, () -> sheet.leaf(wrong, 0, 0));
            DUE.refuses("parent before waste", Due.INDEX, () -> sheet.leaf(wrong, 0, 51));
        }
        for (int wrong : new int[] {-1, 1, 12, Integer.MIN_VALUE, Integer.MAX_VALUE}) {
            DUE.refuses("rate " + wrong, Due.INDEX, () -> sheet.leaf(0, wrong, 0));
            DUE.refuses("rate before waste", Due.INDEX, () -> sheet.leaf(0, wrong, -1));
            DUE.refuses("rate before a parent that is a leaf", Due.INDEX, () -> sheet.leaf(1, wrong, 0));
        }
        for (int wrong : new int[] {-1, 51, Integer.MIN_VALUE, Integer.MAX_VALUE}) {
            DUE.refuses("waste " + wrong, Due.ARGUMENT, () -> sheet.leaf(NONE, 0, wrong));
            DUE.refuses("waste before a parent that is a leaf", Due.ARGUMENT, () -> sheet.leaf(1, 0, wrong));
        }
        DUE.refuses("a leaf as the parent", Due.STATE, () -> sheet.leaf(1, 0, 0));
        DUE.answers("nothing was added", 2, sheet::items);
    }

    private static void promise14Items() {
        TakeoffSheet sheet = new TakeoffSheet();
        DUE.answers("none", 0, sheet::items);
        sheet.heading(NONE);
        DUE.answers("a heading", 1, sheet::items);
        sheet.rate(1, 1, 1);
        DUE.answers("a rate is no item", 1, sheet::items);
        sheet.leaf(0, 0, 1);
        DUE.answers("a leaf too", 2, sheet::items);
    }

    private static void promises12And13ItemsAreFull() {
        TakeoffSheet sheet = new TakeoffSheet();
        sheet.rate(1, 0, 0);
        for (int i = 0; i < 29; i++) {
            int parent = i - 1;
            DUE.answers("heading " + i, i, () -> sheet.heading(parent));
        }
        DUE.answers("the last item", 29, () -> sheet.leaf(28, 0, 0));
        DUE.answers("30 items", 30, sheet::items);
        DUE.refuses("a heading beyond 30", Due.STATE, () -> sheet.heading(NONE));
        DUE.refuses("a leaf beyond 30", Due.STATE, () -> sheet.leaf(28, 0, 0));
        DUE.refuses("no such parent before the count", Due.INDEX, () -> sheet.heading(30));
        DUE.refuses("the waste before the count", Due.ARGUMENT, () -> sheet.leaf(NONE, 0, 51));
        DUE.answers("still 30 items", 30, sheet::items);
        sheet.vary(29, 4);
        DUE.answers("a sum through 29 headings", 4, () -> sheet.sum(0));
        DUE.answers("the dearest through 29 headings", 29, () -> sheet.dearest(0));
    }
}
