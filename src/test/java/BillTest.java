/** Promises 18 to 20: sum, total, dearest. */
final class BillTest {
    private static final Due DUE = new Due();

    public static void main(String[] args) {
        promise18SumOfALeaf();
        promise18SumOfAHeading();
        promise18SumIsLong();
        promise19Total();
        promise20Dearest();
        promise20DearestWithoutLeaves();
        DUE.end("BillTest");
    }

    private static void promise18SumOfALeaf() {
        TakeoffSheet sheet = new TakeoffSheet();
        sheet.rate(1, 0, 2);
        sheet.price(TakeoffSheet.LABOUR, 30);
        sheet.leaf(TakeoffSheet.NONE, 0, 10);
        DUE.answers("at first", 0, () -> sheet.sum(0));
        Sheets.rectangle(sheet, 8, 2);
        sheet.take(0, 1);
        DUE.answers("the quantity, rounded up, times the price", 18 * 32, () -> sheet.sum(0));
        sheet.vary(0, 2);
        DUE.answers("with its variation, which has no waste", 20 * 32, () -> sheet.sum(0));
        sheet.vary(0, -19);
        DUE.answers("with a variation below 0", 32, () -> sheet.sum(0));
        sheet.vary(0, -1);
        DUE.answers("nothing is left", 0, () -> sheet.sum(0));
        sheet.vary(0, -1);
        DUE.answers("at least 0", 0, () -> sheet.sum(0));
        sheet.vary(0, 3);
        sheet.price(TakeoffSheet.MATERIAL, 5);
        DUE.answers("at the prices of now", 80, () -> sheet.sum(0));
    }

    private static void promise18SumOfAHeading() {
        TakeoffSheet sheet = Sheets.withTree();
        sheet.vary(2, 10);
        sheet.vary(3, 20);
        sheet.vary(4, 40);
        DUE.answers("leaf 2", 10, () -> sheet.sum(2));
        DUE.answers("leaf 3", 40, () -> sheet.sum(3));
        DUE.answers("leaf 4", 120, () -> sheet.sum(4));
        DUE.answers("heading 1", 10, () -> sheet.sum(1));
        DUE.answers("heading 0, with what is in 1", 50, () -> sheet.sum(0));
        sheet.vary(3, -4000);
        DUE.answers("a leaf below 0 takes nothing off", 10, () -> sheet.sum(0));
        sheet.heading(0);
        DUE.answers("a heading without items", 0, () -> sheet.sum(5));
        for (int wrong : new int[] {-1, 6, 30, Integer.MIN_VALUE, Integer.MAX_VALUE}) {
            DUE.refuses("item " + wrong, Due.INDEX, () -> sheet.sum(wrong));
        }
    }

    private static void promise18SumIsLong() {
        TakeoffSheet sheet = new TakeoffSheet();
        for (int kind = TakeoffSheet.LABOUR; kind <= TakeoffSheet.MATERIAL; kind++) {
            sheet.price(kind, 1000);
        }
        sheet.rate(50, 50, 50);
        sheet.heading(TakeoffSheet.NONE);
        sheet.leaf(0, 0, 50);
        for (int i = 0; i < 80; i++) {
            Sheets.rectangle(sheet, 40, 40);
            sheet.take(1, 20);
        }
        DUE.answers("a great quantity", 3840000, () -> sheet.quantity(1));
        DUE.answers("a great sum", 576000000000L, () -> sheet.sum(0));
        DUE.answers("a great total", 576000000000L, sheet::total);
        sheet.done(1, 99);
        DUE.answers("a great worth", 570240000000L, sheet::worth);
        DUE.answers("a great due amount", 541728000000L, sheet::due);
        DUE.answers("a great claim", 541728000000L, sheet::claim);
        DUE.answers("much claimed", 541728000000L, sheet::claimed);
    }

    private static void promise19Total() {
        TakeoffSheet sheet = Sheets.withTree();
        DUE.answers("at first", 0, sheet::total);
        sheet.vary(2, 10);
        sheet.vary(3, 20);
        sheet.vary(4, 40);
        DUE.answers("all leaves, each once", 170, sheet::total);
        sheet.vary(3, -21);
        DUE.answers("a leaf below 0 takes nothing off", 130, sheet::total);
        sheet.price(TakeoffSheet.MATERIAL, 0);
        DUE.answers("at the prices of now", 10, sheet::total);
        TakeoffSheet alone = Sheets.withLeaf(0);
        alone.vary(0, 6);
        DUE.answers("a leaf alone", 6, alone::total);
    }

    private static void promise20Dearest() {
        TakeoffSheet sheet = Sheets.withTree();
        DUE.answers("of several with 0 the lowest", 2, () -> sheet.dearest(0));
        sheet.vary(2, 10);
        sheet.vary(3, 5);
        sheet.vary(4, 1000);
        DUE.answers("of several the lowest", 2, () -> sheet.dearest(0));
        sheet.vary(3, 1);
        DUE.answers("the greatest sum, not the greatest quantity", 3, () -> sheet.dearest(0));
        DUE.answers("below heading 1", 2, () -> sheet.dearest(1));
        DUE.answers("the leaf itself", 2, () -> sheet.dearest(2));
        DUE.answers("another leaf itself", 4, () -> sheet.dearest(4));
        sheet.vary(2, 3);
        DUE.answers("at any level", 2, () -> sheet.dearest(0));
        sheet.vary(2, -5000);
        sheet.vary(3, -5000);
        DUE.answers("below 0 both count 0", 2, () -> sheet.dearest(0));
        DUE.answers("a leaf of 0 itself", 3, () -> sheet.dearest(3));
        TakeoffSheet alone = Sheets.withLeaf(0);
        DUE.answers("a leaf alone", 0, () -> alone.dearest(0));
    }

    private static void promise20DearestWithoutLeaves() {
        TakeoffSheet sheet = Sheets.withTree();
        sheet.heading(1);
        sheet.heading(5);
        DUE.answers("a heading without leaves", TakeoffSheet.NONE, () -> sheet.dearest(6));
        DUE.answers("a heading with headings alone", TakeoffSheet.NONE, () -> sheet.dearest(5));
        sheet.leaf(6, 0, 0);
        DUE.answers("a leaf two levels below", 7, () -> sheet.dearest(5));
        for (int wrong : new int[] {-1, 8, 30, Integer.MIN_VALUE, Integer.MAX_VALUE}) {
            DUE.refuses("item " + wrong, Due.INDEX, () -> sheet.dearest(wrong));
        }
    }
}
