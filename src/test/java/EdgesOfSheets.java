/** The section 'Sheets' and the promises 8 and 23 to 25, sentence by sentence, at their edges. */
final class EdgesOfSheets {
    private static final Edges E = EdgesTest.EDGES;
    private static final String LAID = "The pieces of a colour are laid as the boxes that just hold them: higher ones first, "
            + "of the same height wider ones, then by rising numbers: each on the latest shelf, if there is room to the "
            + "right";

    private EdgesOfSheets() {
    }

    static void all() {
        twentyHigh();
        fourToForty();
        widths();
        boxesThatJustHold();
        higherThenWider();
        byRisingNumbers();
        roomToTheRight();
        latestShelf();
        newShelf();
        newSheet();
        leftOut();
        sixty();
        sheetsForAColour();
        laid();
        waste();
        coloursOutOfRange();
    }

    /** A window in which boxes of rows and columns, both ends with them, are of the colour 1 and all else of 0. */
    private static Leadlight boxes(int[]... boxes) {
        Leadlight x = new Leadlight();
        for (int[] box : boxes) {
            Windows.cutOut(x, box[0], box[1], box[2], box[3]);
        }
        for (int[] box : boxes) {
            x.colour(x.pieceOf(16 * box[0] + box[1]), 1);
        }
        return x;
    }

    /** Where the piece of a box's first cell is laid. */
    private static int spot(Leadlight x, int... box) {
        return x.laid(x.pieceOf(16 * box[0] + box[1]));
    }

    private static Leadlight wide(Leadlight x, int width) {
        x.sheet(width);
        return x;
    }

    private static void twentyHigh() {
        E.says("Sheets", "Sheets, all 20 high, are as wide as told, 4 to 40, 20 at first.");
        int[] tenHigh = {0, 0, 9, 7};
        int[] another = {0, 8, 9, 15};
        Leadlight x = wide(boxes(tenHigh, another), 15);
        E.due(0, () -> spot(x, tenHigh));
        E.due(1000, () -> spot(x, another));
        E.due(1, () -> x.sheets(1));
        E.due(20 * 15 - 160, () -> x.waste(1));
        int[] elevenHigh = {0, 0, 10, 7};
        Leadlight y = wide(boxes(elevenHigh, another), 15);
        E.due(0, () -> spot(y, elevenHigh));
        E.due(10000, () -> spot(y, another));
        E.due(2, () -> y.sheets(1));
        int[] nineHigh = {0, 8, 8, 15};
        Leadlight z = wide(boxes(elevenHigh, nineHigh), 15);
        E.due(1100, () -> spot(z, nineHigh));
        E.due(1, () -> z.sheets(1));
    }

    private static void fourToForty() {
        E.says("Sheets", "Sheets, all 20 high, are as wide as told, 4 to 40, 20 at first.");
        E.due(20, () -> new Leadlight().sheet(20));
        E.due(20 * 20 - 256, () -> new Leadlight().waste(0));
        E.due(20 * 40 - 256, () -> wide(new Leadlight(), 40).waste(0));
        E.due(20 * 4 - 64, () -> wide(boxes(new int[] {0, 0, 15, 3}), 4).waste(1));
        E.due(40, () -> wide(wide(new Leadlight(), 40), 40).sheet(4));
        E.due(4, () -> wide(new Leadlight(), 4).sheet(40));
    }

    private static void widths() {
        E.says("Promise 8", "`width`: 4 to 40");
        Leadlight x = new Leadlight();
        E.due(20, () -> x.sheet(4));
        E.due(4, () -> x.sheet(40));
        E.due(40, () -> x.sheet(40));
        E.says("Promise 8", "Returns what it was.");
        int before = 40;
        for (int width : Windows.range(4, 40)) {
            int due = before;
            E.due(due, () -> x.sheet(width));
            before = width;
        }
        E.says("Promise 8", "Throws `IllegalArgumentException` if width is out of range");
        for (int width : new int[] {3, 41, 0, -1, -4, -20, Integer.MIN_VALUE, Integer.MAX_VALUE}) {
            E.badArgument(Windows::quarters, w -> w.sheet(width));
            E.badArgument(() -> wide(Windows.quarters(), 40), w -> w.sheet(width));
        }
        E.says("Promise 8", "Sets how wide sheets are.");
        E.due(-1, () -> wide(new Leadlight(), 15).laid(0));
        E.due(0, () -> wide(new Leadlight(), 16).laid(0));
    }

    private static void boxesThatJustHold() {
        E.says("Sheets", LAID);
        // A ring of 3 by 3 cells takes the room of its box, also that of the cell inside, and no more.
        Leadlight ring = Windows.ring();
        ring.colour(0, 1);
        ring.colour(5, 1);
        E.due(0, () -> ring.laid(0));
        E.due(3, () -> ring.laid(5));
        E.due(3, () -> ring.piece(0, 5));
        E.due(3, () -> ring.piece(0, 6));
        // Once its lowest row has one cell less the box is as it was; without the row it is lower.
        ring.give(33, 1);
        E.due(3, () -> ring.piece(0, 5));
        ring.give(32, 1);
        ring.give(34, 1);
        E.due(2, () -> ring.piece(0, 5));
        E.due(3, () -> ring.piece(0, 6));
    }

    private static void higherThenWider() {
        E.says("Sheets", LAID);
        int[] low = {0, 0, 2, 7};
        int[] high = {8, 8, 11, 9};
        Leadlight x = boxes(low, high);
        E.due(0, () -> spot(x, high));
        E.due(2, () -> spot(x, low));
        int[] narrow = {0, 0, 2, 3};
        int[] wide = {0, 8, 2, 12};
        Leadlight y = boxes(narrow, wide);
        E.due(0, () -> spot(y, wide));
        E.due(5, () -> spot(y, narrow));
        // Higher goes before wider.
        int[] higher = {8, 0, 11, 0};
        Leadlight z = boxes(narrow, wide, higher);
        E.due(0, () -> spot(z, higher));
        E.due(1, () -> spot(z, wide));
        E.due(6, () -> spot(z, narrow));
    }

    private static void byRisingNumbers() {
        E.says("Sheets", LAID);
        Leadlight x = Windows.quarters();
        x.sheet(40);
        for (int piece : Windows.range(0, 3)) {
            E.due(8 * piece, () -> x.laid(piece));
        }
        // The upper left square is the piece 4 now, and so the last.
        x.divide(0, 3);
        x.join(4, 0);
        E.due(24, () -> x.laid(4));
        E.due(0, () -> x.laid(1));
        E.due(8, () -> x.laid(2));
        // Others of its size but of another colour are not among them.
        x.colour(2, 5);
        E.due(8, () -> x.laid(3));
        E.due(0, () -> x.laid(2));
    }

    private static void roomToTheRight() {
        E.says("Sheets", LAID);
        E.due(8, () -> wide(Windows.quarters(), 16).laid(1));
        E.due(800, () -> wide(Windows.quarters(), 16).laid(2));
        E.due(800, () -> wide(Windows.quarters(), 15).laid(1));
        E.due(16, () -> wide(Windows.quarters(), 24).laid(2));
        E.due(800, () -> wide(Windows.quarters(), 23).laid(2));
        E.due(24, () -> wide(Windows.quarters(), 32).laid(3));
        E.due(800, () -> wide(Windows.quarters(), 31).laid(3));
    }

    private static void latestShelf() {
        E.says("Sheets", LAID);
        // The third one has room on the first shelf too, but is laid on the second.
        int[] first = {0, 0, 7, 9};
        int[] second = {8, 0, 15, 7};
        int[] third = {0, 10, 3, 15};
        Leadlight x = wide(boxes(first, second, third), 16);
        E.due(0, () -> spot(x, first));
        E.due(800, () -> spot(x, second));
        E.due(808, () -> spot(x, third));
        x.sheet(18);
        E.due(10, () -> spot(x, second));
        E.due(800, () -> spot(x, third));
    }

    private static final int[][] STAIRS = {{0, 0, 7, 9}, {0, 10, 4, 15}, {8, 0, 10, 4}, {5, 10, 6, 15}, {11, 0, 12, 4},
        {7, 10, 7, 15}};

    private static void newShelf() {
        E.says("Sheets", "otherwise on a new shelf above it, if there is room, which is as high as it is");
        int[] due = {0, 800, 1300, 1600, 1800, 10000};
        Leadlight x = wide(boxes(STAIRS), 10);
        for (int box : Windows.range(0, 5)) {
            E.due(due[box], () -> spot(x, STAIRS[box]));
        }
        E.due(2, () -> x.sheets(1));
        // A lower one beside a higher one does not make the shelf lower.
        int[] high = {0, 0, 7, 4};
        int[] low = {0, 5, 5, 9};
        int[] above = {8, 0, 12, 7};
        Leadlight y = wide(boxes(high, low, above), 10);
        E.due(0, () -> spot(y, high));
        E.due(5, () -> spot(y, low));
        E.due(800, () -> spot(y, above));
    }

    private static void newSheet() {
        E.says("Sheets", "otherwise on a new sheet.");
        // Four strips of all sixteen rows: none goes above another one.
        Leadlight strips = boxes(new int[] {0, 0, 15, 3}, new int[] {0, 4, 15, 7}, new int[] {0, 8, 15, 11});
        strips.colour(strips.pieceOf(12), 1);
        int[] widths = {4, 7, 8, 11, 12, 15, 16, 40};
        int[] sheets = {4, 4, 2, 2, 2, 2, 1, 1};
        int[] last = {30000, 30000, 10004, 10004, 10000, 10000, 12, 12};
        for (int at : Windows.range(0, 7)) {
            strips.sheet(widths[at]);
            E.due(sheets[at], () -> strips.sheets(1));
            E.due(last[at], () -> strips.laid(strips.pieceOf(12)));
        }
        // On a new sheet shelves begin anew: the first is as high as the piece that is laid there.
        Leadlight x = wide(Windows.quarters(), 8);
        E.due(10000, () -> x.laid(2));
        E.due(10800, () -> x.laid(3));
        int[] top = {0, 0, 15, 3};
        int[] second = {0, 4, 10, 7};
        int[] third = {0, 8, 8, 11};
        Leadlight y = wide(boxes(top, second, third), 4);
        E.due(0, () -> spot(y, top));
        E.due(10000, () -> spot(y, second));
        E.due(11100, () -> spot(y, third));
    }

    private static void leftOut() {
        E.says("Sheets", "What cannot be laid on an empty sheet is left out.");
        for (int width : Windows.range(4, 40)) {
            Leadlight x = wide(new Leadlight(), width);
            E.due(width < 16 ? -1 : 0, () -> x.laid(0));
            E.due(width < 16 ? 0 : 1, () -> x.sheets(0));
            E.due(width < 16 ? 0 : 20 * width - 256, () -> x.waste(0));
        }
        // The one between, too wide, neither ends the shelf nor takes room.
        int[] first = {0, 0, 5, 8};
        int[] tooWide = {8, 0, 12, 11};
        int[] last = {0, 9, 4, 10};
        Leadlight x = wide(boxes(first, tooWide, last), 11);
        E.due(0, () -> spot(x, first));
        E.due(-1, () -> spot(x, tooWide));
        E.due(9, () -> spot(x, last));
        E.due(1, () -> x.sheets(1));
        E.due(20 * 11 - 54 - 10, () -> x.waste(1));
        x.sheet(12);
        E.due(600, () -> spot(x, tooWide));
        E.due(1100, () -> spot(x, last));
    }

    private static void sixty() {
        E.says("Sheets", "otherwise on a new sheet.");
        Leadlight narrow = wide(Windows.sixty(), 4);
        Leadlight wide = wide(Windows.sixty(), 40);
        for (int piece : Windows.range(0, 59)) {
            boolean eightWide = piece >= 44 && piece <= 47;
            int place = piece < 44 ? piece : piece - 4;
            E.due(eightWide ? -1 : place / 20 * 10000 + place % 20 * 100, () -> narrow.laid(piece));
            int left = place + 8;
            E.due(eightWide ? piece % 4 * 8 : left / 10 * 100 + left % 10 * 4, () -> wide.laid(piece));
        }
        E.due(3, () -> narrow.sheets(0));
        E.due(3 * 80 - 56 * 4, () -> narrow.waste(0));
        E.due(1, () -> wide.sheets(0));
        E.due(800 - 256, () -> wide.waste(0));
    }

    private static void sheetsForAColour() {
        E.says("Promise 23", "Returns how many sheets are needed for a colour.");
        Leadlight x = wide(Windows.quarters(), 8);
        E.due(2, () -> x.sheets(0));
        for (int colour : Windows.range(1, 7)) {
            E.due(0, () -> x.sheets(colour));
            E.due(0, () -> x.waste(colour));
        }
        x.colour(0, 7);
        E.due(2, () -> x.sheets(0));
        E.due(1, () -> x.sheets(7));
        x.join(0, 1);
        E.due(1, () -> x.sheets(0));
        E.due(1, () -> x.sheets(7));
        x.join(2, 3);
        x.join(2, 0);
        E.due(0, () -> x.sheets(0));
        E.due(0, () -> x.sheets(7));
    }

    private static void laid() {
        E.says("Promise 24", "Returns where a piece is laid among those of its colour: 10000 times the sheet, 100 times the "
                + "height of its lower edge, and how far it is from the left, together.");
        E.due(0, () -> new Leadlight().laid(0));
        E.due(11100, () -> spot(wide(boxes(new int[] {0, 0, 15, 3}, new int[] {0, 4, 10, 7}, new int[] {0, 8, 8, 11}), 4),
                0, 8));
        E.due(36, () -> wide(Windows.sixty(), 40).laid(1));
        E.due(11900, () -> wide(Windows.sixty(), 4).laid(39));
        E.says("Promise 24", "Returns as told; -1 if it is left out.");
        E.due(-1, () -> wide(Windows.halves(), 15).laid(1));
        E.due(800, () -> wide(Windows.halves(), 16).laid(1));
        E.says("Promise 24", "Throws `IndexOutOfBoundsException` as told");
        for (int piece : new int[] {-1, 1, 4, 60, Integer.MIN_VALUE, Integer.MAX_VALUE}) {
            E.noPlace(Windows::oneGone, x -> x.laid(piece));
        }
        E.due(0, () -> Windows.oneGone().laid(0));
        E.due(16, () -> wide(Windows.oneGone(), 40).laid(3));
    }

    private static void waste() {
        E.says("Promise 25", "Returns how much of the sheets for a colour is not covered by cells of pieces that are laid.");
        E.due(400 - 256, () -> new Leadlight().waste(0));
        E.due(0, () -> new Leadlight().waste(1));
        Leadlight ring = Windows.ring();
        ring.colour(0, 2);
        E.due(400 - 8, () -> ring.waste(2));
        ring.colour(5, 2);
        E.due(400 - 9, () -> ring.waste(2));
        // Cells of one that is left out cover nothing.
        Leadlight x = wide(boxes(new int[] {0, 0, 0, 3}, new int[] {5, 0, 5, 4}), 4);
        E.due(80 - 4, () -> x.waste(1));
        x.sheet(5);
        E.due(100 - 9, () -> x.waste(1));
        // Nor does one that is gone.
        E.due(400 - 128, () -> {
            Leadlight y = Windows.oneGone();
            y.colour(0, 3);
            return y.waste(3);
        });
    }

    private static void coloursOutOfRange() {
        E.says("Promise 23", "`colour`: 0 to 7");
        E.due(1, () -> new Leadlight().sheets(0));
        E.due(0, () -> new Leadlight().sheets(7));
        E.says("Promise 25", "`colour`: 0 to 7");
        E.due(144, () -> new Leadlight().waste(0));
        E.due(0, () -> new Leadlight().waste(7));
        for (int colour : new int[] {-1, 8, 9, -8, Integer.MIN_VALUE, Integer.MAX_VALUE}) {
            E.says("Promise 23", "Throws `IllegalArgumentException` if colour is out of range");
            E.badArgument(Windows::oneGone, x -> x.sheets(colour));
            E.says("Promise 25", "Throws `IllegalArgumentException` if colour is out of range");
            E.badArgument(Windows::oneGone, x -> x.waste(colour));
        }
    }
}
