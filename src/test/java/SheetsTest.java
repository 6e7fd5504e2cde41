/** Promises 8 and 23 to 25: sheets, what is laid on them, and what is left of them. */
public final class SheetsTest {
    private static final Check CHECK = new Check("SheetsTest");

    private SheetsTest() {
    }

    public static void main(String[] args) {
        sheet();
        quartersOfOneColour();
        leftOut();
        justRoom();
        higherThenWiderThenLower();
        boxesAndCells();
        colours();
        refused();
        CHECK.end();
    }

    private static void sheet() {
        Leadlight x = new Leadlight();
        CHECK.due("sheet(4)", () -> x.sheet(4), 20);
        CHECK.due("sheet(40)", () -> x.sheet(40), 4);
        for (int width : new int[] {3, 41, 0, -1, Integer.MIN_VALUE, Integer.MAX_VALUE}) {
            CHECK.badArgument("sheet(" + width + ")", () -> x.sheet(width));
        }
        CHECK.due("sheet(16)", () -> x.sheet(16), 40);
    }

    private static void laidAt(String of, Leadlight x, int... due) {
        for (int piece = 0; piece < due.length; piece++) {
            int asked = piece;
            CHECK.due(of + ": laid(" + piece + ")", () -> x.laid(asked), due[piece]);
        }
    }

    private static void needs(String of, Leadlight x, int colour, int sheets, int waste) {
        CHECK.due(of + ": sheets(" + colour + ")", () -> x.sheets(colour), sheets);
        CHECK.due(of + ": waste(" + colour + ")", () -> x.waste(colour), waste);
    }

    private static void quartersOfOneColour() {
        Leadlight x = Windows.quarters();
        laidAt("20 wide", x, 0, 8, 800, 808);
        needs("20 wide", x, 0, 1, 400 - 256);
        x.sheet(8);
        laidAt("8 wide", x, 0, 800, 10000, 10800);
        needs("8 wide", x, 0, 2, 320 - 256);
        x.sheet(40);
        laidAt("40 wide", x, 0, 8, 16, 24);
        needs("40 wide", x, 0, 1, 800 - 256);
        x.finish();
        x.crack(0);
        needs("original and broken", x, 0, 1, 800 - 256);
    }

    private static void leftOut() {
        Leadlight x = Windows.quarters();
        x.sheet(7);
        laidAt("7 wide", x, -1, -1, -1, -1);
        needs("7 wide", x, 0, 0, 0);
        x.divide(0, 19);
        laidAt("7 wide, one halved", x, 0, -1, -1, -1, 800);
        needs("7 wide, one halved", x, 0, 1, 140 - 64);
    }

    private static void justRoom() {
        Leadlight x = new Leadlight();
        x.divide(0, 9);
        x.divide(0, 23);
        x.sheet(16);
        laidAt("16 wide", x, 0, 1000, 8);
        x.sheet(15);
        laidAt("15 wide", x, 0, -1, 1000);
        needs("15 wide", x, 0, 1, 300 - 160);
        // One row more, and two do not fit above each other.
        Leadlight high = new Leadlight();
        high.divide(0, 10);
        high.divide(0, 23);
        high.sheet(15);
        laidAt("11 high", high, 0, -1, 10000);
        needs("11 high", high, 0, 2, 600 - 176);
        needs("one that is as wide as the opening", new Leadlight(), 0, 1, 400 - 256);
    }

    private static void higherThenWiderThenLower() {
        Leadlight x = new Leadlight();
        x.divide(0, 3);
        x.divide(0, 18);
        x.divide(2, 23);
        x.divide(3, 27);
        // 0 is 4 high and 3 wide, 1 is 12 and 16, 2 is 4 and 5, 3 is 4 and 4, 4 is 4 and 4.
        x.sheet(16);
        laidAt("as they come", x, 1213, 0, 1200, 1205, 1209);
        x.sheet(12);
        // Without the widest, a second shelf takes the last two of them.
        laidAt("without the widest", x, 404, -1, 0, 5, 400);
        x.sheet(9);
        laidAt("just as wide as two", x, 404, -1, 0, 5, 400);
        needs("just as wide as two", x, 0, 1, 180 - 64);
    }

    private static void boxesAndCells() {
        Leadlight x = new Leadlight();
        x.divide(0, 3);
        x.divide(0, 19);
        Windows.give(x, 0, 64, 80, 96);
        // The box of 0 is 7 high and 4 wide, but only 19 cells are covered.
        x.colour(0, 1);
        needs("a leg", x, 1, 1, 400 - 19);
        x.colour(2, 1);
        laidAt("a leg and a block", x, 0);
        CHECK.due("a leg and a block: laid(2)", () -> x.laid(2), 4);
        x.sheet(12);
        CHECK.due("the block above: laid(2)", () -> x.laid(2), 700);
        needs("the block above", x, 1, 1, 240 - 67);
    }

    private static void colours() {
        Leadlight x = Windows.quarters();
        x.colour(1, 7);
        laidAt("two colours", x, 0, 0, 8, 800);
        needs("two colours", x, 0, 1, 400 - 192);
        needs("two colours", x, 7, 1, 400 - 64);
        needs("two colours", x, 3, 0, 0);
        CHECK.due("waste(7) after another's sheets", () -> x.waste(7), 400 - 64);
        CHECK.due("sheets(3) after another's waste", () -> x.sheets(3), 0);
        CHECK.due("laid(3) after another's sheets", () -> x.laid(3), 800);
        x.join(0, 1);
        needs("the only one gone", x, 7, 0, 0);
        needs("the only one gone", x, 0, 2, 800 - 256);
    }

    private static void refused() {
        Leadlight x = Windows.quarters();
        x.join(0, 1);
        for (int colour : new int[] {-1, 8, Integer.MIN_VALUE, Integer.MAX_VALUE}) {
            CHECK.badArgument("sheets(" + colour + ")", () -> x.sheets(colour));
            CHECK.badArgument("waste(" + colour + ")", () -> x.waste(colour));
        }
        for (int piece : new int[] {-1, 1, 4, 60, Integer.MIN_VALUE, Integer.MAX_VALUE}) {
            CHECK.noPlace("laid(" + piece + ")", () -> x.laid(piece));
        }
    }
}
