/** Promises 1 to 6 and 15 to 18: the cartoon and its pieces. */
public final class PiecesTest {
    private static final Check CHECK = new Check("PiecesTest");

    private PiecesTest() {
    }

    public static void main(String[] args) {
        newObject();
        divideByLines();
        divideRefused();
        divideUpToSixty();
        give();
        giveRefused();
        giveAndConnected();
        join();
        joinAtCorners();
        joinRefused();
        colour();
        finish();
        pieceOf();
        pieceTells();
        canBeCut();
        bestLine();
        CHECK.end();
    }

    private static void tells(String of, Leadlight x, int piece, int... due) {
        for (int what = 0; what < due.length; what++) {
            int asked = what;
            CHECK.due(of + ": piece(" + piece + ", " + what + ")", () -> x.piece(piece, asked), due[what]);
        }
    }

    private static void newObject() {
        Leadlight x = new Leadlight();
        tells("new", x, 0, 256, 0, 0, 0, 0, 16, 16, 0, 0, 0);
        CHECK.due("new: pieces()", x::pieces, 1);
        CHECK.due("new: pieceOf(0)", () -> x.pieceOf(0), 0);
        CHECK.due("new: pieceOf(255)", () -> x.pieceOf(255), 0);
        CHECK.due("new: isShut()", x::isShut, true);
        CHECK.due("new: bends(0, 1)", () -> x.bends(0, 1), 64);
        CHECK.due("new: history(0, 0)", () -> x.history(0, 0), 1);
        CHECK.due("new: history(0, 1)", () -> x.history(0, 1), -1);
        CHECK.due("new: heart(2)", () -> x.heart(2), 2);
        CHECK.due("new: sheet(20)", () -> x.sheet(20), 20);
    }

    private static void divideByLines() {
        int[][] cases = {{0, 15, 16}, {7, 127, 128}, {14, 239, 240}, {16, 0, 1}, {23, 7, 8}, {30, 254, 255}};
        for (int[] each : cases) {
            Leadlight x = new Leadlight();
            CHECK.due("divide(0, " + each[0] + ")", () -> x.divide(0, each[0]), 1);
            CHECK.due("line " + each[0] + ": pieceOf(" + each[1] + ")", () -> x.pieceOf(each[1]), 0);
            CHECK.due("line " + each[0] + ": pieceOf(" + each[2] + ")", () -> x.pieceOf(each[2]), 1);
            CHECK.due("line " + each[0] + ": pieces()", x::pieces, 2);
        }
        Leadlight x = new Leadlight();
        x.colour(0, 5);
        x.paint(0, 600);
        x.crack(0);
        x.divide(0, 3);
        tells("divided", x, 0, 64, 5, 0, 1, 0, 4, 16, 1, 0, 0);
        tells("new by dividing", x, 1, 192, 5, 0, 0, 0, 12, 16, 0, 0, 0);
        CHECK.due("divided: history(0, 4)", () -> x.history(0, 4), 2);
        CHECK.due("new by dividing: history(1, 0)", () -> x.history(1, 0), 1);
        CHECK.due("new by dividing: history(1, 1)", () -> x.history(1, 1), -1);
    }

    private static void divideRefused() {
        Leadlight x = new Leadlight();
        for (int piece : new int[] {-1, 1, 60, Integer.MIN_VALUE, Integer.MAX_VALUE}) {
            CHECK.noPlace("divide(" + piece + ", 7)", () -> x.divide(piece, 7));
            CHECK.noPlace("divide(" + piece + ", 15)", () -> x.divide(piece, 15));
        }
        for (int line : new int[] {-1, 15, 31, 32, Integer.MIN_VALUE, Integer.MAX_VALUE}) {
            CHECK.badArgument("divide(0, " + line + ")", () -> x.divide(0, line));
        }
        x.divide(0, 7);
        CHECK.badState("nothing beyond: divide(0, 7)", () -> x.divide(0, 7));
        CHECK.badState("nothing beyond: divide(0, 14)", () -> x.divide(0, 14));
        CHECK.badState("nothing before: divide(1, 7)", () -> x.divide(1, 7));
        CHECK.badState("nothing before: divide(1, 0)", () -> x.divide(1, 0));
        x.join(0, 1);
        CHECK.noPlace("gone: divide(1, 10)", () -> x.divide(1, 10));
        x.finish();
        CHECK.badState("original: divide(0, 7)", () -> x.divide(0, 7));
        CHECK.badArgument("original: divide(0, 31)", () -> x.divide(0, 31));

        Leadlight legs = new Leadlight();
        legs.divide(0, 0);
        Windows.give(legs, 0, 16, 31);
        CHECK.badState("two legs beyond: divide(0, 0)", () -> legs.divide(0, 0));
        CHECK.due("two legs, aside: divide(0, 16)", () -> legs.divide(0, 16), 2);
        Leadlight horns = new Leadlight();
        horns.divide(0, 14);
        Windows.give(horns, 1, 224, 239);
        CHECK.badState("two horns before: divide(1, 14)", () -> horns.divide(1, 14));
    }

    private static void divideUpToSixty() {
        Leadlight x = Windows.sixty();
        CHECK.due("sixty: pieces()", x::pieces, 60);
        CHECK.due("sixty: piece(59, 0)", () -> x.piece(59, 0), 4);
        CHECK.due("sixty: pieceOf(191)", () -> x.pieceOf(191), 59);
        CHECK.badState("sixty: divide(44, 27)", () -> x.divide(44, 27));
        CHECK.due("sixty: join(1, 0)", () -> x.join(1, 0), 8);
        CHECK.due("sixty, one gone: pieces()", x::pieces, 59);
        CHECK.badState("sixty ever: divide(1, 0)", () -> x.divide(1, 0));
        CHECK.noPlace("sixty: divide(60, 0)", () -> x.divide(60, 0));
    }

    private static void give() {
        Leadlight x = Windows.quarters();
        CHECK.due("from above: give(112, 1)", () -> x.give(112, 1), 0);
        CHECK.due("from below: give(113, 1)", () -> x.give(113, 1), 0);
        CHECK.due("from the right: give(8, 0)", () -> x.give(8, 0), 2);
        CHECK.due("from the left: give(23, 2)", () -> x.give(23, 2), 0);
        CHECK.due("give: pieceOf(112)", () -> x.pieceOf(112), 1);
        CHECK.due("give: pieceOf(23)", () -> x.pieceOf(23), 2);
        CHECK.due("give: piece(1, 0)", () -> x.piece(1, 0), 66);
        CHECK.due("give: piece(0, 0)", () -> x.piece(0, 0), 62);
        CHECK.due("give: history(1, 2)", () -> x.history(1, 2), 2);
        CHECK.due("give: history(1, 4)", () -> x.history(1, 4), -1);
        CHECK.due("give: history(3, 1)", () -> x.history(3, 1), -1);
    }

    /** What a cell leaves may be connected or not in ways that only a look at all sides finds. */
    private static void giveAndConnected() {
        Leadlight x = new Leadlight();
        x.divide(0, 14);
        Windows.give(x, 1, 224, 226, 239);
        CHECK.due("joined from below: give(239, 0)", () -> x.give(239, 0), 1);
        x.give(233, 1);
        Windows.give(x, 0, 224, 226);
        x.give(239, 1);
        CHECK.due("joined to the left: give(239, 0)", () -> x.give(239, 0), 1);
        x.give(233, 0);
        x.give(239, 1);
        CHECK.badState("the upper right torn off: give(254, 0)", () -> x.give(254, 0));
    }

    private static void giveRefused() {
        Leadlight x = Windows.quarters();
        for (int cell : new int[] {-1, 256, Integer.MIN_VALUE, Integer.MAX_VALUE}) {
            CHECK.noPlace("give(" + cell + ", 0)", () -> x.give(cell, 0));
        }
        for (int piece : new int[] {-1, 4, Integer.MIN_VALUE, Integer.MAX_VALUE}) {
            CHECK.noPlace("give(0, " + piece + ")", () -> x.give(0, piece));
        }
        CHECK.badState("its own: give(0, 0)", () -> x.give(0, 0));
        CHECK.badState("across a corner: give(136, 0)", () -> x.give(136, 0));
        CHECK.badState("two below: give(144, 0)", () -> x.give(144, 0));
        CHECK.badState("two above: give(96, 1)", () -> x.give(96, 1));
        CHECK.badState("two to the right: give(9, 0)", () -> x.give(9, 0));
        CHECK.badState("two to the left: give(6, 2)", () -> x.give(6, 2));
        // The right end of a row is no neighbour of the left end of the next.
        Leadlight ends = new Leadlight();
        ends.divide(0, 30);
        CHECK.badState("the next row's end: give(16, 1)", () -> ends.give(16, 1));

        Leadlight strip = new Leadlight();
        strip.divide(0, 0);
        CHECK.badState("torn apart: give(5, 1)", () -> strip.give(5, 1));
        CHECK.due("at the end: give(0, 1)", () -> strip.give(0, 1), 0);
        CHECK.due("at the end: pieceOf(0)", () -> strip.pieceOf(0), 1);
        Leadlight island = Windows.island();
        CHECK.badState("nothing left: give(229, 0)", () -> island.give(229, 0));
        Leadlight corner = new Leadlight();
        corner.divide(0, 0);
        corner.divide(0, 16);
        CHECK.badState("nothing left: give(0, 1)", () -> corner.give(0, 1));

        Leadlight originals = new Leadlight();
        originals.divide(0, 7);
        originals.finish();
        CHECK.badState("both original: give(128, 0)", () -> originals.give(128, 0));
        originals.crack(0);
        originals.replace(0, 0);
        CHECK.badState("giver original: give(128, 0)", () -> originals.give(128, 0));
        CHECK.badState("taker original: give(112, 1)", () -> originals.give(112, 1));
    }

    private static void join() {
        Leadlight x = Windows.quarters();
        x.colour(0, 3);
        x.colour(1, 4);
        x.paint(1, 600);
        x.crack(0);
        x.crack(255);
        CHECK.due("join(0, 1)", () -> x.join(0, 1), 128);
        tells("joined", x, 0, 128, 3, 0, 1, 0, 16, 8, 0, 0, 0);
        CHECK.due("join: pieces()", x::pieces, 3);
        CHECK.due("join: pieceOf(128)", () -> x.pieceOf(128), 0);
        CHECK.noPlace("gone: piece(1, 0)", () -> x.piece(1, 0));
        CHECK.noPlace("gone: join(1, 0)", () -> x.join(1, 0));
        CHECK.noPlace("gone: join(0, 1)", () -> x.join(0, 1));
        CHECK.noPlace("gone: give(0, 1)", () -> x.give(0, 1));
        CHECK.due("join: history(0, 5)", () -> x.history(0, 5), 2);
        CHECK.due("join: history(0, 6)", () -> x.history(0, 6), -1);
        CHECK.due("gone: history(1, 4)", () -> x.history(1, 4), 2);
        CHECK.due("gone: history(1, 5)", () -> x.history(1, 5), -1);
        CHECK.due("broken one joined: join(2, 3)", () -> x.join(2, 3), 128);
        CHECK.due("which is broken no more: mend(0)", () -> x.mend(0), 0);
        CHECK.due("join: isShut()", x::isShut, true);
    }

    private static void joinAtCorners() {
        for (int corner : new int[] {0, 15, 240, 255}) {
            Leadlight x = new Leadlight();
            int row = corner < 16 ? 0 : 14;
            int column = corner % 16 == 0 ? 16 : 30;
            x.divide(0, row);
            x.divide(corner < 16 ? 0 : 1, column);
            int single = x.pieceOf(corner);
            int above = x.pieceOf(corner < 16 ? corner + 16 : corner - 16);
            CHECK.due("one cell: piece(" + single + ", 0)", () -> x.piece(single, 0), 1);
            CHECK.due("corner " + corner + ": join(" + single + ", " + above + ")", () -> x.join(single, above), 241);
            CHECK.due("corner " + corner + ": pieceOf", () -> x.pieceOf(128), single);
        }
    }

    private static void joinRefused() {
        Leadlight x = Windows.quarters();
        CHECK.badState("the same: join(0, 0)", () -> x.join(0, 0));
        CHECK.badState("across a corner: join(0, 3)", () -> x.join(0, 3));
        CHECK.badState("across a corner: join(1, 2)", () -> x.join(1, 2));
        CHECK.noPlace("join(4, 0)", () -> x.join(4, 0));
        CHECK.noPlace("join(0, 4)", () -> x.join(0, 4));
        CHECK.noPlace("join(-1, -1)", () -> x.join(-1, -1));
        x.finish();
        CHECK.badState("both original: join(0, 1)", () -> x.join(0, 1));
        x.crack(0);
        x.replace(0, 0);
        CHECK.badState("the other original: join(0, 1)", () -> x.join(0, 1));
        CHECK.badState("the first original: join(1, 0)", () -> x.join(1, 0));
    }

    private static void colour() {
        Leadlight x = new Leadlight();
        CHECK.due("colour(0, 7)", () -> x.colour(0, 7), 0);
        CHECK.due("colour(0, 0)", () -> x.colour(0, 0), 7);
        CHECK.due("the same: colour(0, 0)", () -> x.colour(0, 0), 0);
        CHECK.due("colour: history(0, 2)", () -> x.history(0, 2), 3);
        CHECK.due("colour: history(0, 3)", () -> x.history(0, 3), -1);
        CHECK.badArgument("colour(0, 8)", () -> x.colour(0, 8));
        CHECK.badArgument("colour(0, -1)", () -> x.colour(0, -1));
        CHECK.noPlace("colour(1, 8)", () -> x.colour(1, 8));
        x.finish();
        CHECK.badState("original: colour(0, 0)", () -> x.colour(0, 0));
        CHECK.badArgument("original: colour(0, 8)", () -> x.colour(0, 8));
    }

    private static void finish() {
        Leadlight x = Windows.quarters();
        x.join(0, 1);
        CHECK.due("finish()", x::finish, 3);
        CHECK.due("finish() again", x::finish, 0);
        CHECK.due("finish: piece(0, 2)", () -> x.piece(0, 2), 1);
        CHECK.due("finish: history(2, 1)", () -> x.history(2, 1), 6);
        CHECK.due("finish: history(2, 2)", () -> x.history(2, 2), -1);
        CHECK.due("gone: history(1, 3)", () -> x.history(1, 3), -1);
        x.crack(0);
        x.replace(0, 2);
        CHECK.due("replaced: piece(0, 2)", () -> x.piece(0, 2), 0);
        CHECK.due("replaced: finish()", x::finish, 1);
        Leadlight later = new Leadlight();
        later.finish();
        later.crack(0);
        later.replace(0, 0);
        later.divide(0, 7);
        CHECK.due("two anew: finish()", later::finish, 2);
    }

    private static void pieceOf() {
        Leadlight x = Windows.quarters();
        CHECK.due("pieceOf(119)", () -> x.pieceOf(119), 0);
        CHECK.due("pieceOf(120)", () -> x.pieceOf(120), 2);
        CHECK.due("pieceOf(135)", () -> x.pieceOf(135), 1);
        CHECK.due("pieceOf(136)", () -> x.pieceOf(136), 3);
        CHECK.noPlace("pieceOf(-1)", () -> x.pieceOf(-1));
        CHECK.noPlace("pieceOf(256)", () -> x.pieceOf(256));
    }

    private static void pieceTells() {
        Leadlight x = new Leadlight();
        x.divide(0, 3);
        x.divide(0, 20);
        x.divide(1, 20);
        // An L: columns 0 to 4 of rows 0 to 3, and four cells below.
        Windows.give(x, 0, 64, 65, 80, 81);
        x.colour(0, 6);
        x.paint(0, 500);
        x.paint(0, 520);
        x.paint(0, 700);
        x.fire(0, 540);
        x.crack(0);
        tells("L", x, 0, 24, 6, 0, 1, 0, 6, 5, 3, 1, 1);
        x.mend(0);
        x.finish();
        tells("L, mended", x, 0, 24, 6, 1, 2, 0, 6, 5, 3, 1, 1);
        CHECK.badArgument("piece(0, -1)", () -> x.piece(0, -1));
        CHECK.badArgument("piece(0, 10)", () -> x.piece(0, 10));
        CHECK.noPlace("piece(4, 0)", () -> x.piece(4, 0));
        CHECK.noPlace("piece(-1, 10)", () -> x.piece(-1, 10));
    }

    private static void canBeCut() {
        Leadlight rows = new Leadlight();
        rows.divide(0, 1);
        CHECK.due("two rows: piece(0, 4)", () -> rows.piece(0, 4), 0);
        Windows.give(rows, 0, 32, 33);
        CHECK.due("a leg: piece(0, 4)", () -> rows.piece(0, 4), 0);
        Windows.give(rows, 0, 47, 46);
        CHECK.due("two legs: piece(0, 4)", () -> rows.piece(0, 4), 1);
        Leadlight columns = new Leadlight();
        columns.divide(0, 17);
        Windows.give(columns, 0, 2, 18);
        CHECK.due("an arm: piece(0, 4)", () -> columns.piece(0, 4), 0);
        Windows.give(columns, 0, 242, 226);
        CHECK.due("two arms: piece(0, 4)", () -> columns.piece(0, 4), 1);
        Leadlight thin = new Leadlight();
        thin.divide(0, 1);
        Windows.give(thin, 0, 40);
        CHECK.due("a thin leg: piece(0, 4)", () -> thin.piece(0, 4), 2);
        CHECK.due("a notch: piece(1, 4)", () -> thin.piece(1, 4), 1);
        Leadlight strip = new Leadlight();
        strip.divide(0, 0);
        strip.divide(1, 29);
        CHECK.due("one row: piece(0, 4)", () -> strip.piece(0, 4), 2);
        CHECK.due("two columns: piece(2, 4)", () -> strip.piece(2, 4), 0);
        strip.divide(0, 17);
        CHECK.due("two cells above all: piece(0, 4)", () -> strip.piece(0, 4), 2);
        strip.divide(1, 13);
        strip.divide(4, 14);
        strip.divide(5, 17);
        CHECK.due("two cells below all: piece(5, 4)", () -> strip.piece(5, 4), 2);
        Leadlight island = Windows.island();
        CHECK.due("one cell: piece(1, 4)", () -> island.piece(1, 4), 2);
        CHECK.due("with a hole: piece(0, 4)", () -> island.piece(0, 4), 1);
    }

    private static void bestLine() {
        Leadlight x = new Leadlight();
        CHECK.due("new: bestLine(0)", () -> x.bestLine(0), 1);
        x.divide(0, 3);
        CHECK.due("four rows: bestLine(0)", () -> x.bestLine(0), 17);
        CHECK.due("twelve rows: bestLine(1)", () -> x.bestLine(1), 17);
        Windows.give(x, 0, 64, 65, 80, 81);
        CHECK.due("a leg: bestLine(0)", () -> x.bestLine(0), 3);
        Windows.give(x, 0, 79, 78, 95, 94);
        CHECK.due("two legs: bestLine(0)", () -> x.bestLine(0), 17);
        x.finish();
        CHECK.due("original: bestLine(0)", () -> x.bestLine(0), 17);
        CHECK.noPlace("bestLine(-1)", () -> x.bestLine(-1));
        CHECK.noPlace("bestLine(2)", () -> x.bestLine(2));

        Leadlight small = new Leadlight();
        small.divide(0, 2);
        CHECK.due("three rows: bestLine(0)", () -> small.bestLine(0), 17);
        small.divide(0, 18);
        CHECK.due("three by three: bestLine(0)", () -> small.bestLine(0), -1);
        small.divide(2, 28);
        CHECK.due("three by three at the right: bestLine(3)", () -> small.bestLine(3), -1);
        small.join(2, 3);
        small.divide(2, 27);
        CHECK.due("three by four at the right: bestLine(4)", () -> small.bestLine(4), 29);
        small.join(2, 4);
        CHECK.noPlace("gone: bestLine(4)", () -> small.bestLine(4));
        // Two blocks of four rows, and between them a neck of two rows, in columns 6 to 9.
        Leadlight neck = new Leadlight();
        neck.divide(0, 3);
        Windows.give(neck, 1, 54, 55, 56, 57, 38, 39, 40, 41);
        CHECK.due("a neck: piece(0, 4)", () -> neck.piece(0, 4), 1);
        CHECK.due("a neck: bestLine(0)", () -> neck.bestLine(0), 21);
        Leadlight notch = new Leadlight();
        notch.divide(0, 3);
        Windows.give(notch, 1, 54, 38);
        CHECK.due("a notch of one column: bestLine(0)", () -> notch.bestLine(0), 21);
        Leadlight blocks = new Leadlight();
        blocks.divide(0, 3);
        blocks.divide(0, 20);
        CHECK.due("four rows, five columns: bestLine(0)", () -> blocks.bestLine(0), 17);
        blocks.divide(1, 8);
        blocks.divide(1, 19);
        CHECK.due("five rows, four columns: bestLine(1)", () -> blocks.bestLine(1), 5);
        blocks.divide(4, 22);
        blocks.divide(5, 27);
        CHECK.due("five rows, five columns: bestLine(5)", () -> blocks.bestLine(5), 5);
    }
}
