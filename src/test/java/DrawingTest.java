/** Promises 1 to 8: a new object, begin, wall, opening, limit, area, areaByStrips, netArea. */
final class DrawingTest {
    private static final int EAST = TakeoffSheet.EAST, NORTH = TakeoffSheet.NORTH;
    private static final int WEST = TakeoffSheet.WEST, SOUTH = TakeoffSheet.SOUTH;
    private static final Due DUE = new Due();

    public static void main(String[] args) {
        promise1NewObject();
        promise2Begin();
        promise2BeginAnew();
        promise3WallAnswers();
        promise3WallRefusals();
        promise3WallOverPlaces();
        promise3WallThatThrowsChangesNothing();
        promise4Opening();
        promise5Limit();
        promises6And7Areas();
        promise8NetArea();
        DUE.end("DrawingTest");
    }

    private static void promise1NewObject() {
        TakeoffSheet sheet = new TakeoffSheet();
        DUE.answers("items of a new sheet", 0, sheet::items);
        DUE.answers("total of a new sheet", 0, sheet::total);
        DUE.answers("worth of a new sheet", 0, sheet::worth);
        DUE.answers("due of a new sheet", 0, sheet::due);
        DUE.answers("claimed of a new sheet", 0, sheet::claimed);
        DUE.refuses("claim of a new sheet", Due.STATE, sheet::claim);
        DUE.refuses("wall without a drawing", Due.STATE, () -> sheet.wall(EAST, 1));
        DUE.refuses("opening without a drawing", Due.STATE, () -> sheet.opening(1, 1));
        DUE.refuses("area without a drawing", Due.STATE, sheet::area);
        DUE.refuses("areaByStrips without a drawing", Due.STATE, sheet::areaByStrips);
        DUE.refuses("netArea without a drawing", Due.STATE, sheet::netArea);
        DUE.refuses("sum without items", Due.INDEX, () -> sheet.sum(0));
        DUE.refuses("rateOf without rates", Due.INDEX, () -> sheet.rateOf(0));
        DUE.answers("limit of a new sheet", 10, () -> sheet.limit(10));
        DUE.answers("retention of a new sheet", 5, () -> sheet.retention(5));
        for (int kind = 0; kind < 3; kind++) {
            int one = kind;
            DUE.answers("price of kind " + kind + " of a new sheet", 1, () -> sheet.price(one, 1));
        }
        Sheets.rectangle(sheet, 2, 2);
        sheet.heading(TakeoffSheet.NONE);
        sheet.rate(1, 1, 1);
        TakeoffSheet other = new TakeoffSheet();
        DUE.answers("items of another sheet", 0, other::items);
        DUE.refuses("area of another sheet", Due.STATE, other::area);
        DUE.refuses("rateOf of another sheet", Due.INDEX, () -> other.rateOf(0));
    }

    private static void promise2Begin() {
        TakeoffSheet sheet = new TakeoffSheet();
        for (int wrong : new int[] {-1, 41, Integer.MIN_VALUE, Integer.MAX_VALUE}) {
            DUE.refuses("begin at x " + wrong, Due.ARGUMENT, () -> sheet.begin(wrong, 3));
            DUE.refuses("begin at y " + wrong, Due.ARGUMENT, () -> sheet.begin(3, wrong));
        }
        DUE.refuses("wall after begins that threw", Due.STATE, () -> sheet.wall(EAST, 1));
        for (int corner : new int[] {0, 40}) {
            sheet.begin(corner, 40 - corner);
            DUE.says("wall from a corner of the places", false, sheet.wall(corner == 0 ? EAST : WEST, 40));
        }
    }

    private static void promise2BeginAnew() {
        TakeoffSheet sheet = Sheets.withRectangle(3, 2);
        sheet.opening(4, 4);
        DUE.refuses("begin out of its range", Due.ARGUMENT, () -> sheet.begin(0, 41));
        DUE.answers("area after a begin that threw", 6, sheet::area);
        DUE.answers("netArea after a begin that threw", 0, sheet::netArea);
        sheet.begin(1, 1);
        DUE.refuses("area of a drawing begun anew", Due.STATE, sheet::area);
        DUE.says("walls over places of the drawing before", true, Sheets.draw(sheet, "W1 S1 E1 N1"));
        DUE.answers("area of the new drawing", 1, sheet::area);
        DUE.answers("areaByStrips of the new drawing", 1, sheet::areaByStrips);
        DUE.answers("netArea without the openings before", 1, sheet::netArea);
        DUE.answers("openings are counted anew", 1, () -> sheet.opening(1, 1));
    }

    private static void promise3WallAnswers() {
        TakeoffSheet sheet = new TakeoffSheet();
        sheet.begin(10, 10);
        DUE.says("EAST", false, sheet.wall(EAST, 3));
        DUE.says("EAST again", false, sheet.wall(EAST, 1));
        DUE.says("NORTH", false, sheet.wall(NORTH, 5));
        DUE.says("WEST", false, sheet.wall(WEST, 4));
        DUE.says("SOUTH, but for the last step", false, sheet.wall(SOUTH, 4));
        DUE.says("SOUTH to the begin", true, sheet.wall(SOUTH, 1));
        DUE.answers("area", 20, sheet::area);
        sheet.begin(0, 0);
        DUE.says("the least drawing that closes", true, Sheets.draw(sheet, "N1 E1 S1 W1"));
        sheet.begin(0, 0);
        DUE.says("all round the places", true, Sheets.draw(sheet, "E40 N40 W40 S40"));
        DUE.answers("area of all places", 1600, sheet::area);
    }

    private static void promise3WallRefusals() {
        TakeoffSheet sheet = new TakeoffSheet();
        for (int wrong : new int[] {-1, 4, Integer.MIN_VALUE, Integer.MAX_VALUE}) {
            DUE.refuses("direction before state", Due.ARGUMENT, () -> sheet.wall(wrong, 1));
        }
        for (int wrong : new int[] {0, 41, -1, Integer.MIN_VALUE, Integer.MAX_VALUE}) {
            DUE.refuses("steps before state", Due.ARGUMENT, () -> sheet.wall(NORTH, wrong));
        }
        sheet.begin(20, 20);
        for (int direction = EAST; direction <= SOUTH; direction++) {
            int one = direction;
            DUE.refuses("a wall that leaves the places, direction " + one, Due.INDEX, () -> sheet.wall(one, 21));
            DUE.refuses("steps before places", Due.ARGUMENT, () -> sheet.wall(one, 41));
        }
        for (int direction = EAST; direction <= SOUTH; direction++) {
            sheet.begin(20, 20);
            DUE.says("a wall to the last place", false, sheet.wall(direction, 20));
        }
        Sheets.rectangle(sheet, 2, 2);
        DUE.refuses("a wall of a closed drawing", Due.STATE, () -> sheet.wall(EAST, 1));
        DUE.refuses("state before places", Due.STATE, () -> sheet.wall(SOUTH, 1));
        DUE.refuses("direction before state", Due.ARGUMENT, () -> sheet.wall(4, 1));
    }

    private static void promise3WallOverPlaces() {
        TakeoffSheet sheet = new TakeoffSheet();
        sheet.begin(5, 5);
        sheet.wall(EAST, 1);
        DUE.refuses("back to the begin over one other place", Due.INDEX, () -> sheet.wall(WEST, 1));
        sheet.begin(5, 5);
        sheet.wall(EAST, 4);
        DUE.refuses("back over the last wall to the begin", Due.INDEX, () -> sheet.wall(WEST, 4));
        sheet.begin(5, 5);
        Sheets.draw(sheet, "E2 N1 W2");
        DUE.refuses("over the begin and on", Due.INDEX, () -> sheet.wall(SOUTH, 2));
        DUE.says("to the begin", true, sheet.wall(SOUTH, 1));
        sheet.begin(5, 5);
        Sheets.draw(sheet, "E6 N4 W3");
        DUE.refuses("ends on a wall", Due.INDEX, () -> sheet.wall(SOUTH, 4));
        DUE.refuses("crosses a wall", Due.INDEX, () -> sheet.wall(SOUTH, 5));
        DUE.says("stops short of it", false, sheet.wall(SOUTH, 3));
        sheet.begin(5, 5);
        Sheets.draw(sheet, "E3 N3 E3 S3 W2");
        DUE.refuses("ends on a corner", Due.INDEX, () -> sheet.wall(WEST, 1));
        Sheets.draw(sheet, "S2 W3");
        DUE.refuses("ends on the first place of a wall", Due.INDEX, () -> sheet.wall(NORTH, 2));
        DUE.says("stops short of it", false, sheet.wall(NORTH, 1));
        sheet.begin(5, 5);
        sheet.wall(EAST, 1);
        DUE.refuses("back, where the drawing before had more places", Due.INDEX, () -> sheet.wall(WEST, 1));
    }

    private static void promise3WallThatThrowsChangesNothing() {
        TakeoffSheet sheet = new TakeoffSheet();
        sheet.begin(38, 0);
        Sheets.draw(sheet, "N5 E1");
        DUE.refuses("out of the places after one good step", Due.INDEX, () -> sheet.wall(EAST, 2));
        DUE.refuses("out of the places, far", Due.INDEX, () -> sheet.wall(SOUTH, 6));
        DUE.says("over the places of walls that threw", false, Sheets.draw(sheet, "E1 S5"));
        DUE.says("and closed", true, sheet.wall(WEST, 2));
        DUE.answers("area", 10, sheet::area);
        DUE.answers("areaByStrips", 10, sheet::areaByStrips);
    }

    private static void promise4Opening() {
        TakeoffSheet sheet = new TakeoffSheet();
        DUE.refuses("width before state", Due.ARGUMENT, () -> sheet.opening(0, 1));
        sheet.begin(0, 0);
        DUE.refuses("opening of an open drawing", Due.STATE, () -> sheet.opening(1, 1));
        Sheets.draw(sheet, "E40 N40 W40");
        DUE.refuses("opening of a drawing that is nearly closed", Due.STATE, () -> sheet.opening(1, 1));
        sheet.wall(SOUTH, 40);
        for (int wrong : new int[] {0, 41, -1, Integer.MIN_VALUE, Integer.MAX_VALUE}) {
            DUE.refuses("width " + wrong, Due.ARGUMENT, () -> sheet.opening(wrong, 1));
            DUE.refuses("height " + wrong, Due.ARGUMENT, () -> sheet.opening(1, wrong));
        }
        for (int count = 1; count <= 10; count++) {
            int side = count;
            DUE.answers("opening " + count, count, () -> sheet.opening(side, 1 + side % 2));
        }
        DUE.refuses("an opening beyond 10", Due.STATE, () -> sheet.opening(1, 1));
        DUE.refuses("width before the count", Due.ARGUMENT, () -> sheet.opening(41, 1));
        sheet.limit(0);
        DUE.answers("all ten are taken off", 1600 - 80, sheet::netArea);
        Sheets.rectangle(sheet, 40, 40);
        DUE.answers("the widest opening", 1, () -> sheet.opening(40, 1));
        DUE.answers("the highest opening", 2, () -> sheet.opening(1, 40));
        DUE.answers("both are taken off", 1520, sheet::netArea);
    }

    private static void promise5Limit() {
        TakeoffSheet sheet = new TakeoffSheet();
        for (int wrong : new int[] {-1, 1601, Integer.MIN_VALUE, Integer.MAX_VALUE}) {
            DUE.refuses("limit " + wrong, Due.ARGUMENT, () -> sheet.limit(wrong));
        }
        DUE.answers("limit at first", 10, () -> sheet.limit(0));
        DUE.answers("limit before, the least", 0, () -> sheet.limit(1600));
        DUE.answers("limit before, the greatest", 1600, () -> sheet.limit(11));
        Sheets.rectangle(sheet, 10, 10);
        sheet.opening(3, 4);
        sheet.opening(11, 1);
        DUE.answers("above 11", 88, sheet::netArea);
        sheet.limit(10);
        DUE.answers("above 10, of openings before the call", 77, sheet::netArea);
        sheet.limit(12);
        DUE.answers("above 12", 100, sheet::netArea);
        DUE.refuses("a limit that throws", Due.ARGUMENT, () -> sheet.limit(-1));
        DUE.answers("changes nothing", 100, sheet::netArea);
        sheet.begin(0, 0);
        DUE.answers("a begin leaves the limit", 12, () -> sheet.limit(12));
    }

    private static void areas(String walls, int x, int y, int area) {
        TakeoffSheet sheet = new TakeoffSheet();
        sheet.begin(x, y);
        DUE.says(walls + " closes", true, Sheets.draw(sheet, walls));
        DUE.answers("area of " + walls, area, sheet::area);
        DUE.answers("areaByStrips of " + walls, area, sheet::areaByStrips);
        DUE.answers("netArea of " + walls, area, sheet::netArea);
    }

    private static void promises6And7Areas() {
        areas("E1 N1 W1 S1", 39, 39, 1);
        areas("N1 E1 S1 W1", 0, 0, 1);
        areas("S3 W2 N3 E2", 40, 40, 6);
        areas("E40 N40 W40 S40", 0, 0, 1600);
        areas("N40 E1 S40 W1", 39, 0, 40);
        areas("E10 N6 W4 N4 W6 S10", 0, 0, 84);
        areas("E2 E3 N1 N1 W5 S2", 7, 9, 10);
        // A U, whose strips go in, out and in again.
        areas("E5 N4 W2 S3 W1 N3 W2 S4", 3, 3, 17);
        // A comb whose walls run one place apart.
        areas("E7 N5 W1 S4 W1 N4 W1 S4 W1 N4 W1 S4 W1 N4 W1 S5", 20, 30, 23);
        // A spiral, begun in its middle.
        areas("E1 N2 W3 S4 E5 N6 W1 S5 W3 N2 E1 S1", 20, 20, 16);
        TakeoffSheet sheet = new TakeoffSheet();
        sheet.begin(0, 0);
        Sheets.draw(sheet, "E4 N4 W4 S3");
        DUE.refuses("area of an open drawing", Due.STATE, sheet::area);
        DUE.refuses("areaByStrips of an open drawing", Due.STATE, sheet::areaByStrips);
        sheet.wall(SOUTH, 1);
        sheet.opening(4, 4);
        DUE.answers("area with an opening", 16, sheet::area);
        DUE.answers("areaByStrips with an opening", 16, sheet::areaByStrips);
        DUE.answers("area asked for again", 16, sheet::area);
        DUE.answers("areaByStrips asked for again", 16, sheet::areaByStrips);
    }

    private static void promise8NetArea() {
        TakeoffSheet sheet = Sheets.withRectangle(6, 5);
        sheet.opening(2, 5);
        DUE.answers("an opening at the limit stays", 30, sheet::netArea);
        sheet.opening(11, 1);
        DUE.answers("an opening above the limit is taken off", 19, sheet::netArea);
        sheet.opening(19, 1);
        DUE.answers("as much as the area is taken off", 0, sheet::netArea);
        sheet.opening(40, 40);
        DUE.answers("at least 0", 0, sheet::netArea);
        DUE.answers("area stays", 30, sheet::area);
        sheet.begin(0, 0);
        DUE.refuses("netArea of an open drawing", Due.STATE, sheet::netArea);
    }
}
