/** Sheets and drawings that several tests begin with. */
final class Sheets {
    private Sheets() {
    }

    static void rectangle(TakeoffSheet sheet, int width, int height) {
        sheet.begin(0, 0);
        sheet.wall(TakeoffSheet.EAST, width);
        sheet.wall(TakeoffSheet.NORTH, height);
        sheet.wall(TakeoffSheet.WEST, width);
        sheet.wall(TakeoffSheet.SOUTH, height);
    }

    static TakeoffSheet withRectangle(int width, int height) {
        TakeoffSheet sheet = new TakeoffSheet();
        rectangle(sheet, width, height);
        return sheet;
    }

    /** Walls as letters with their steps, as in "E10 N6 W10 S6"; answers what the last wall answers. */
    static boolean draw(TakeoffSheet sheet, String walls) {
        boolean closed = false;
        for (String wall : walls.split(" ")) {
            closed = sheet.wall("ENWS".indexOf(wall.charAt(0)), Integer.parseInt(wall.substring(1)));
        }
        return closed;
    }

    /** A heading 0 with a heading 1 in it, leaves 2 in 1, 3 in 0, and 4 in none; the rates are 1, 2 and 3 cents. */
    static TakeoffSheet withTree() {
        TakeoffSheet sheet = new TakeoffSheet();
        sheet.rate(1, 0, 0);
        sheet.rate(0, 2, 0);
        sheet.rate(0, 0, 3);
        sheet.heading(TakeoffSheet.NONE);
        sheet.heading(0);
        sheet.leaf(1, 0, 0);
        sheet.leaf(0, 1, 0);
        sheet.leaf(TakeoffSheet.NONE, 2, 0);
        return sheet;
    }

    /** A sheet with one leaf, 0, of a waste, whose rate is 1 cent. */
    static TakeoffSheet withLeaf(int waste) {
        TakeoffSheet sheet = new TakeoffSheet();
        sheet.rate(1, 0, 0);
        sheet.leaf(TakeoffSheet.NONE, 0, waste);
        return sheet;
    }
}
