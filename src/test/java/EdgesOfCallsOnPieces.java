import java.util.function.Supplier;

/** The promises 1 to 6 and 15 to 18, sentence by sentence: what is still good, and what is refused. */
final class EdgesOfCallsOnPieces {
    private static final Edges E = EdgesTest.EDGES;
    private static final String AS_TOLD = "Throws `IndexOutOfBoundsException` as told";
    /** No such pieces in a window of which 1 is gone, and in which four came about. */
    private static final int[] NO_PIECES = {-1, 1, 4, 59, 60, 61, -60, Integer.MIN_VALUE, Integer.MAX_VALUE};
    private static final int[] NO_CELLS = {-1, 256, 257, -16, -256, 512, Integer.MIN_VALUE, Integer.MAX_VALUE};

    private EdgesOfCallsOnPieces() {
    }

    static void all() {
        newObject();
        divide();
        divideRefused();
        give();
        giveRefused();
        join();
        joinRefused();
        colour();
        colourRefused();
        finish();
        pieces();
        pieceOf();
        piece();
        pieceTellsOfPaint();
        pieceRefused();
        bestLine();
    }

    private static void newObject() {
        E.says("Promise 1", "One piece.");
        Leadlight x = new Leadlight();
        E.due(1, x::pieces);
        E.due(256, () -> x.piece(0, 0));
        E.noPlace(Leadlight::new, w -> w.piece(1, 0));
        E.noPlace(Leadlight::new, w -> w.history(1, 0));
        E.due(1, () -> x.history(0, 0));
        E.due(-1, () -> x.history(0, 1));
    }

    private static void divide() {
        E.says("Promise 2", "Divides a piece.");
        E.due(2, () -> {
            Leadlight x = Windows.halves();
            x.divide(1, 8);
            return x.pieceOf(144);
        });
        E.says("Promise 2", "`line`: 0 to 14, or 16 to 30");
        for (int line : new int[] {0, 14, 16, 30}) {
            E.due(1, () -> new Leadlight().divide(0, line));
        }
        E.says("Promise 2", "Returns the number of the new piece.");
        Leadlight x = new Leadlight();
        int number = 0;
        for (int line : Windows.range(0, 14)) {
            int last = number;
            E.due(last + 1, () -> x.divide(last, line));
            number++;
        }
        E.due(59, () -> Windows.fiftyNine().divide(43, 27));
    }

    private static void divideRefused() {
        E.says("Promise 2", AS_TOLD);
        for (int piece : NO_PIECES) {
            E.noPlace(Windows::oneGone, x -> x.divide(piece, 7));
        }
        E.due(4, () -> Windows.oneGone().divide(0, 7));
        E.due(4, () -> Windows.oneGone().divide(3, 8));
        E.says("Promise 2", "Throws `IllegalArgumentException` if line is out of range");
        for (int line : new int[] {-1, 15, 31, 32, -16, 256, Integer.MIN_VALUE, Integer.MAX_VALUE}) {
            E.badArgument(Windows::oneGone, x -> x.divide(0, line));
            E.badArgument(Windows::finished, x -> x.divide(0, line));
        }
        E.says("Promise 2", "Throws `IllegalStateException` if it is original, either part has no cells or is not connected, "
                + "or there were 60");
        E.badState(Windows::finished, x -> x.divide(0, 3));
        E.badState(Windows::halfFinished, x -> x.divide(1, 8));
        E.due(2, () -> Windows.halfFinished().divide(0, 3));
        E.badState(Windows::halves, x -> x.divide(0, 7));
        E.due(2, () -> Windows.halves().divide(0, 6));
        E.badState(Windows::halves, x -> x.divide(1, 7));
        E.due(2, () -> Windows.halves().divide(1, 8));
        E.badState(() -> Windows.give(Windows.topRow(), 0, 16, 31), x -> x.divide(0, 0));
        E.badState(() -> Windows.give(Windows.bottomRow(), 1, 224, 239), x -> x.divide(1, 14));
        E.badState(Windows::sixty, x -> x.divide(44, 27));
        // One that is gone is of the sixty all the same.
        E.badState(() -> {
            Leadlight x = Windows.sixty();
            x.join(0, 16);
            return x;
        }, x -> x.divide(0, 19));
        E.due(59, () -> {
            Leadlight x = Windows.fiftyNine();
            x.join(0, 16);
            return x.divide(0, 19);
        });
    }

    private static void give() {
        E.says("Promise 3", "Gives a cell to a piece.");
        Leadlight x = Windows.halves();
        E.due(0, () -> x.give(112, 1));
        E.due(1, () -> x.pieceOf(112));
        E.due(127, () -> x.piece(0, 0));
        E.due(129, () -> x.piece(1, 0));
        E.says("Promise 3", "Returns the piece that it was of.");
        E.due(1, () -> x.give(112, 0));
        E.due(1, () -> x.give(128, 0));
        E.due(0, () -> Windows.give(Windows.topRow(), 1, 0).give(1, 1));
        E.due(59, () -> Windows.sixty().give(188, 43));
        // The cells in the opening's corners, and beside its edges.
        E.due(0, () -> Windows.topRow().give(0, 1));
        E.due(0, () -> Windows.topRow().give(15, 1));
        E.due(1, () -> Windows.bottomRow().give(240, 0));
        E.due(1, () -> Windows.bottomRow().give(255, 0));
        E.due(0, () -> Windows.leftColumn().give(0, 1));
        E.due(1, () -> Windows.rightColumn().give(255, 0));
    }

    private static void giveRefused() {
        E.says("Promise 3", AS_TOLD);
        for (int piece : NO_PIECES) {
            E.noPlace(Windows::oneGone, x -> x.give(8, piece));
        }
        for (int cell : NO_CELLS) {
            E.noPlace(Windows::oneGone, x -> x.give(cell, 0));
            E.noPlace(Windows::oneGone, x -> x.give(cell, 1));
        }
        E.due(2, () -> Windows.oneGone().give(8, 0));
        E.says("Promise 3", "Throws `IllegalStateException` if it is of that piece, no neighbour is, either piece is "
                + "original, or what it leaves has no cells or is not connected");
        E.badState(Leadlight::new, x -> x.give(0, 0));
        E.badState(Windows::halves, x -> x.give(112, 0));
        E.badState(Windows::halves, x -> x.give(144, 0));
        E.badState(Windows::quarters, x -> x.give(136, 0));
        E.badState(Windows::finished, x -> x.give(112, 1));
        // 1 alone is original: it gets none and gives none.
        E.badState(Windows::halfFinished, x -> x.give(112, 1));
        E.badState(Windows::halfFinished, x -> x.give(128, 0));
        E.badState(Windows::corner, x -> x.give(0, 1));
        E.badState(Windows::topRow, x -> x.give(5, 1));
    }

    private static void join() {
        E.says("Promise 4", "Joins a piece with another one, which is gone then.");
        Leadlight x = Windows.quarters();
        E.due(128, () -> x.join(3, 1));
        E.due(3, x::pieces);
        E.noPlace(() -> x.piece(1, 0));
        E.due(3, () -> x.pieceOf(128));
        E.says("Promise 4", "Returns how many cells it has then.");
        E.due(192, () -> x.join(3, 0));
        E.due(256, () -> x.join(2, 3));
        E.due(1, x::pieces);
        E.due(8, () -> Windows.sixty().join(59, 58));
        E.due(16, () -> Windows.corner().join(0, 2));
        E.due(16, () -> Windows.corner().join(2, 0));
        E.due(241, () -> Windows.corner().join(0, 1));
        // By the one side that they share, wherever that is.
        for (int corner : new int[] {0, 15, 240, 255}) {
            Leadlight single = new Leadlight();
            int row = corner / 16;
            int column = corner % 16;
            int piece = Windows.cutOut(single, row, column, row, column);
            int beside = single.pieceOf(column == 0 ? corner + 1 : corner - 1);
            int upright = single.pieceOf(row == 0 ? corner + 16 : corner - 16);
            int besides = single.piece(beside, 0);
            E.due(256 - besides, () -> single.join(piece, upright));
            E.due(256, () -> single.join(piece, beside));
        }
        E.due(241, () -> Windows.lastCell().join(0, 2));
        E.due(16, () -> Windows.lastCell().join(1, 2));
    }

    private static void joinRefused() {
        E.says("Promise 4", "Throws `IndexOutOfBoundsException` as told, of both");
        for (int piece : NO_PIECES) {
            E.noPlace(Windows::oneGone, x -> x.join(piece, 0));
            E.noPlace(Windows::oneGone, x -> x.join(0, piece));
            E.noPlace(Windows::oneGone, x -> x.join(piece, piece));
        }
        E.says("Promise 4", "Throws `IllegalStateException` if both are the same, are no neighbours, or either is original");
        E.badState(Leadlight::new, x -> x.join(0, 0));
        E.badState(Windows::quarters, x -> x.join(3, 3));
        E.badState(Windows::quarters, x -> x.join(0, 3));
        E.badState(Windows::quarters, x -> x.join(2, 1));
        E.badState(Windows::finished, x -> x.join(0, 1));
        E.badState(Windows::halfFinished, x -> x.join(0, 1));
        E.badState(Windows::halfFinished, x -> x.join(1, 0));
        E.due(128, () -> Windows.quarters().join(0, 1));
    }

    private static void colour() {
        E.says("Promise 5", "Sets the colour of a piece that is not original.");
        Leadlight x = Windows.halfFinished();
        E.due(0, () -> x.colour(0, 7));
        E.due(7, () -> x.piece(0, 1));
        E.due(0, () -> x.piece(1, 1));
        E.says("Promise 5", "`colour`: 0 to 7");
        E.due(7, () -> x.colour(0, 0));
        E.due(0, () -> x.colour(0, 7));
        E.says("Promise 5", "Returns what it was.");
        int before = 7;
        for (int colour : Windows.range(0, 7)) {
            int due = before;
            E.due(due, () -> x.colour(0, colour));
            E.due(colour, () -> x.colour(0, colour));
            before = colour;
        }
    }

    private static void colourRefused() {
        E.says("Promise 5", AS_TOLD);
        for (int piece : NO_PIECES) {
            E.noPlace(Windows::oneGone, x -> x.colour(piece, 1));
        }
        E.says("Promise 5", "Throws `IllegalArgumentException` if colour is out of range");
        for (int colour : new int[] {-1, 8, 9, -8, Integer.MIN_VALUE, Integer.MAX_VALUE}) {
            E.badArgument(Windows::oneGone, x -> x.colour(0, colour));
            E.badArgument(Windows::finished, x -> x.colour(0, colour));
        }
        E.says("Promise 5", "Throws `IllegalStateException` if it is original");
        E.badState(Windows::finished, x -> x.colour(0, 1));
        E.badState(Windows::finished, x -> x.colour(0, 0));
        E.badState(Windows::halfFinished, x -> x.colour(1, 7));
    }

    private static void finish() {
        E.says("Promise 6", "All pieces that there are are original from now on.");
        Leadlight x = Windows.sixty();
        E.due(60, x::finish);
        for (int piece : Windows.range(0, 59)) {
            E.due(1, () -> x.piece(piece, 2));
        }
        // One that comes about later is not.
        Leadlight later = Windows.halfFinished();
        E.due(2, () -> later.divide(0, 3));
        E.due(0, () -> later.piece(2, 2));
        E.due(1, () -> later.piece(1, 2));
        E.says("Promise 6", "Returns how many become so.");
        E.due(1, () -> new Leadlight().finish());
        E.due(0, () -> Windows.finished().finish());
        E.due(1, () -> Windows.halfFinished().finish());
        E.due(2, later::finish);
        E.due(3, () -> Windows.oneGone().finish());
        Leadlight gone = Windows.oneGone();
        gone.finish();
        E.due(-1, () -> gone.history(1, 3));
    }

    private static void pieces() {
        E.says("Promise 15", "Returns how many pieces there are, those that are gone left out.");
        E.due(1, () -> new Leadlight().pieces());
        E.due(60, () -> Windows.sixty().pieces());
        E.due(59, () -> Windows.fiftyNine().pieces());
        Leadlight x = Windows.quarters();
        E.due(4, x::pieces);
        x.join(1, 0);
        E.due(3, x::pieces);
        x.join(3, 2);
        E.due(2, x::pieces);
        x.join(3, 1);
        E.due(1, x::pieces);
        x.divide(3, 0);
        E.due(2, x::pieces);
    }

    private static void pieceOf() {
        E.says("Promise 16", "Returns the piece of a cell.");
        E.due(0, () -> Windows.sixty().pieceOf(0));
        E.due(15, () -> Windows.sixty().pieceOf(240));
        E.due(47, () -> Windows.sixty().pieceOf(255));
        E.due(48, () -> Windows.sixty().pieceOf(15));
        E.says("Promise 16", AS_TOLD);
        for (int cell : NO_CELLS) {
            E.noPlace(Windows::oneGone, x -> x.pieceOf(cell));
        }
        E.due(0, () -> Windows.oneGone().pieceOf(240));
        E.due(3, () -> Windows.oneGone().pieceOf(255));
    }

    private static final String TELLS = "Tells of a piece: 0 how many cells it has, 1 its colour, 2 whether it is original "
            + "(1 or 0), 3 0 whole, 1 broken, 2 mended, 4 whether it can be cut, 0 to 2, 5 the height of its box, 6 its "
            + "width, 7 how many layers it has, 8 how many of these are fired and not spoiled, 9 how many are spoiled.";

    private static void tells(Supplier<Leadlight> window, int piece, int... due) {
        for (int what : Windows.range(0, due.length - 1)) {
            E.due(due[what], () -> window.get().piece(piece, what));
        }
    }

    private static void piece() {
        E.says("Promise 17", TELLS);
        tells(Leadlight::new, 0, 256, 0, 0, 0, 0, 16, 16, 0, 0, 0);
        tells(Windows::corner, 0, 1, 0, 0, 0, 2, 1, 1, 0, 0, 0);
        tells(Windows::ring, 0, 8, 0, 0, 0, 1, 3, 3, 0, 0, 0);
        tells(Windows::finished, 1, 128, 0, 1, 0, 0, 8, 16, 0, 0, 0);
        tells(() -> {
            Leadlight x = Windows.finished();
            x.crack(255);
            return x;
        }, 1, 128, 0, 1, 1, 0, 8, 16, 0, 0, 0);
        tells(() -> {
            Leadlight x = Windows.finished();
            x.crack(255);
            x.mend(1);
            return x;
        }, 1, 128, 0, 1, 2, 0, 8, 16, 0, 0, 0);
        // A box that begins in row 0 and one that ends in row 15, and so for columns; one cell beyond makes it larger.
        tells(() -> Windows.give(Windows.topRow(), 0, 31), 0, 17, 0, 0, 0, 2, 2, 16, 0, 0, 0);
        tells(() -> Windows.give(Windows.bottomRow(), 1, 224), 1, 17, 0, 0, 0, 2, 2, 16, 0, 0, 0);
        tells(() -> Windows.give(Windows.leftColumn(), 0, 241), 0, 17, 0, 0, 0, 2, 16, 2, 0, 0, 0);
        tells(() -> Windows.give(Windows.rightColumn(), 1, 14), 1, 17, 0, 0, 0, 2, 16, 2, 0, 0, 0);
    }

    private static void pieceTellsOfPaint() {
        E.says("Promise 17", TELLS);
        Leadlight x = Windows.fullyPainted();
        // Of the layers 500, 540, 580, 620 and 660 each is fired at its heat, and spoiled when it is 31 hotter.
        int[] heats = {570, 571, 579, 580, 610, 611, 620, 650, 651, 659, 660, 690, 691, 750};
        int[] fired = {1, 0, 0, 1, 1, 0, 1, 1, 0, 0, 1, 1, 0, 0};
        int[] spoiled = {1, 2, 2, 2, 2, 3, 3, 3, 4, 4, 4, 4, 5, 5};
        for (int at : Windows.range(0, heats.length - 1)) {
            x.fire(0, heats[at]);
            E.due(5, () -> x.piece(0, 7));
            E.due(fired[at], () -> x.piece(0, 8));
            E.due(spoiled[at], () -> x.piece(0, 9));
        }
    }

    private static void pieceRefused() {
        E.says("Promise 17", "`what`: 0 to 9");
        E.due(64, () -> Windows.quarters().piece(3, 0));
        E.due(1, () -> Windows.fullyPainted().piece(0, 9));
        E.says("Promise 17", AS_TOLD);
        for (int piece : NO_PIECES) {
            E.noPlace(Windows::oneGone, x -> x.piece(piece, 0));
            E.noPlace(Windows::oneGone, x -> x.piece(piece, 9));
        }
        E.says("Promise 17", "Throws `IllegalArgumentException` if what is out of range");
        for (int what : new int[] {-1, 10, 11, -10, Integer.MIN_VALUE, Integer.MAX_VALUE}) {
            E.badArgument(Windows::oneGone, x -> x.piece(0, what));
        }
    }

    private static void bestLine() {
        E.says("Promise 18", "Returns the best line for a piece.");
        E.due(1, () -> new Leadlight().bestLine(0));
        E.due(17, () -> Windows.halves().bestLine(1));
        E.due(9, () -> Windows.quarters().bestLine(3));
        E.says("Promise 18", "Returns the line; -1 for none.");
        E.due(-1, () -> Windows.corner().bestLine(0));
        E.due(-1, () -> Windows.topRow().bestLine(0));
        for (int piece : new int[] {0, 44, 59}) {
            E.due(-1, () -> Windows.sixty().bestLine(piece));
        }
        E.says("Promise 18", AS_TOLD);
        for (int piece : NO_PIECES) {
            E.noPlace(Windows::oneGone, x -> x.bestLine(piece));
        }
    }
}
