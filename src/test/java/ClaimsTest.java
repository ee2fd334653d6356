/** Promises 21 to 26: done, retention, worth, due, claim, claimed. */
final class ClaimsTest {
    private static final Due DUE = new Due();

    public static void main(String[] args) {
        promise21Done();
        promise22Retention();
        promise23Worth();
        promise24Due();
        promises25And26Claim();
        promise25ClaimBelowWhatWasClaimed();
        DUE.end("ClaimsTest");
    }

    private static void promise21Done() {
        TakeoffSheet sheet = Sheets.withTree();
        DUE.answers("at first", 0, () -> sheet.done(2, 100));
        DUE.answers("before, the greatest", 100, () -> sheet.done(2, 37));
        DUE.answers("before", 37, () -> sheet.done(2, 0));
        DUE.answers("before, the least", 0, () -> sheet.done(2, 50));
        DUE.answers("another leaf", 0, () -> sheet.done(3, 1));
        for (int wrong : new int[] {-1, 5, 30, Integer.MIN_VALUE, Integer.MAX_VALUE}) {
            DUE.refuses("item " + wrong, Due.INDEX, () -> sheet.done(wrong, 1));
            DUE.refuses("item before hundredths", Due.INDEX, () -> sheet.done(wrong, 101));
        }
        for (int wrong : new int[] {-1, 101, Integer.MIN_VALUE, Integer.MAX_VALUE}) {
            DUE.refuses("hundredths " + wrong, Due.ARGUMENT, () -> sheet.done(2, wrong));
            DUE.refuses("hundredths before heading", Due.ARGUMENT, () -> sheet.done(0, wrong));
        }
        DUE.refuses("a heading", Due.STATE, () -> sheet.done(0, 1));
        DUE.answers("nothing has changed", 50, () -> sheet.done(2, 50));
    }

    private static void promise22Retention() {
        TakeoffSheet sheet = new TakeoffSheet();
        for (int wrong : new int[] {-1, 21, Integer.MIN_VALUE, Integer.MAX_VALUE}) {
            DUE.refuses("retention " + wrong, Due.ARGUMENT, () -> sheet.retention(wrong));
        }
        DUE.answers("at first", 5, () -> sheet.retention(20));
        DUE.answers("before, the greatest", 20, () -> sheet.retention(0));
        DUE.answers("before, the least", 0, () -> sheet.retention(7));
        DUE.answers("before", 7, () -> sheet.retention(7));
    }

    private static void promise23Worth() {
        TakeoffSheet sheet = Sheets.withTree();
        sheet.vary(2, 99);
        sheet.vary(3, 33);
        sheet.vary(4, 5);
        DUE.answers("nothing is done", 0, sheet::worth);
        sheet.done(2, 1);
        DUE.answers("rounded down", 0, sheet::worth);
        sheet.done(2, 2);
        DUE.answers("rounded down, 198 hundredths", 1, sheet::worth);
        sheet.done(3, 3);
        DUE.answers("rounded down for each leaf", 2, sheet::worth);
        sheet.done(2, 100);
        sheet.done(3, 100);
        sheet.done(4, 100);
        DUE.answers("all is done", 99 + 66 + 15, sheet::worth);
        sheet.vary(2, -5000);
        DUE.answers("a leaf below 0 takes nothing off", 66 + 15, sheet::worth);
    }

    private static void dueOf(int worth, int retention, int due) {
        TakeoffSheet sheet = Sheets.withLeaf(0);
        sheet.vary(0, worth);
        sheet.done(0, 100);
        sheet.retention(retention);
        DUE.answers("due of " + worth + " with retention " + retention, due, sheet::due);
    }

    private static void promise24Due() {
        dueOf(0, 5, 0);
        dueOf(1, 5, 0);
        dueOf(1, 0, 1);
        dueOf(19, 5, 18);
        dueOf(20, 5, 19);
        dueOf(21, 5, 19);
        dueOf(100, 20, 80);
        dueOf(101, 20, 80);
        dueOf(5000, 7, 4650);
        TakeoffSheet sheet = Sheets.withLeaf(0);
        sheet.vary(0, 1000);
        sheet.done(0, 100);
        DUE.answers("the retention at first", 950, sheet::due);
        sheet.claim();
        DUE.answers("a claim leaves the due amount", 950, sheet::due);
    }

    private static void promises25And26Claim() {
        TakeoffSheet sheet = Sheets.withLeaf(0);
        sheet.vary(0, 1000);
        DUE.refuses("nothing is due", Due.STATE, sheet::claim);
        DUE.answers("nothing is claimed", 0, sheet::claimed);
        sheet.done(0, 30);
        DUE.answers("the first claim", 285, sheet::claim);
        DUE.answers("claimed then", 285, sheet::claimed);
        DUE.refuses("nothing more", Due.STATE, sheet::claim);
        DUE.answers("still claimed", 285, sheet::claimed);
        sheet.done(0, 80);
        DUE.answers("the second claim, less the first", 475, sheet::claim);
        DUE.answers("claimed in all", 760, sheet::claimed);
        sheet.retention(0);
        DUE.answers("what was retained", 40, sheet::claim);
        DUE.answers("claimed then", 800, sheet::claimed);
    }

    private static void promise25ClaimBelowWhatWasClaimed() {
        TakeoffSheet sheet = Sheets.withLeaf(0);
        sheet.vary(0, 100);
        sheet.done(0, 100);
        DUE.answers("the first claim", 95, sheet::claim);
        sheet.vary(0, -50);
        DUE.refuses("less is due than was claimed", Due.STATE, sheet::claim);
        DUE.answers("which stays claimed", 95, sheet::claimed);
        sheet.vary(0, 50);
        DUE.refuses("as much is due as was claimed", Due.STATE, sheet::claim);
        sheet.vary(0, 1);
        DUE.refuses("all of one more is retained", Due.STATE, sheet::claim);
        sheet.vary(0, 1);
        DUE.answers("the least claim", 1, sheet::claim);
        DUE.answers("claimed in all", 96, sheet::claimed);
    }
}
