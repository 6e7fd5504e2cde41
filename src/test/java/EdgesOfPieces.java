import java.util.Set;
import java.util.TreeSet;

/** The section 'Pieces' and what 'Terms' says ahead of it, sentence by sentence, at their edges. */
final class EdgesOfPieces {
    private static final Edges E = EdgesTest.EDGES;

    private EdgesOfPieces() {
    }

    static void all() {
        fillTheOpening();
        originalIsNotCut();
        rowsAndColumns();
        eachCellIsOfOne();
        numberedUpToSixty();
        allOfTheFirst();
        atFirst();
        gone();
        neighboursShareASide();
        rowsAndColumnsDoNotWrap();
        alwaysConnected();
        connectedAlongTheEdges();
        lines();
        becomeANewPiece();
        bothMustHaveCells();
        bothMustBeConnected();
        partsTouchAtACornerOnly();
        whatItLeaves();
        allOfTheOther();
        sideBySide();
        inNoSquare();
        bestLineIsTheFewest();
        bestLineAcrossANeck();
        bestLineOfPartsThatCanBeCut();
    }

    private static int cellsOfAllPieces(Leadlight x) {
        Set<Integer> pieces = new TreeSet<>();
        for (int cell : Windows.range(0, 255)) {
            pieces.add(x.pieceOf(cell));
        }
        E.due(pieces.size(), x::pieces);
        int cells = 0;
        for (int piece : pieces) {
            cells += x.piece(piece, 0);
        }
        return cells;
    }

    private static void fillTheOpening() {
        E.says("Terms", "Pieces fill the opening and no more");
        E.due(256, () -> cellsOfAllPieces(new Leadlight()));
        E.due(256, () -> cellsOfAllPieces(Windows.sixty()));
        E.due(256, () -> cellsOfAllPieces(Windows.oneGone()));
        E.due(256, () -> cellsOfAllPieces(Windows.island()));
    }

    private static void originalIsNotCut() {
        E.says("Terms", "what is original is never cut.");
        for (int line : new int[] {0, 3, 6, 16, 23, 30}) {
            E.badState(Windows::finished, x -> x.divide(0, line));
            E.due(2, () -> Windows.halfFinished().divide(0, line));
        }
        E.badState(Windows::finished, x -> x.give(112, 1));
    }

    private static void rowsAndColumns() {
        E.says("Pieces", "The opening has 16 rows and 16 columns of cells, numbered from 0: the row, from above, is the "
                + "cell divided by 16, the column its remainder.");
        for (int row : Windows.range(0, 14)) {
            Leadlight x = new Leadlight();
            x.divide(0, row);
            E.due(0, () -> x.pieceOf(16 * row));
            E.due(0, () -> x.pieceOf(16 * row + 15));
            E.due(1, () -> x.pieceOf(16 * row + 16));
            E.due(1, () -> x.pieceOf(16 * row + 31));
            E.due(16 * row + 16, () -> x.piece(0, 0));
        }
        for (int column : Windows.range(0, 14)) {
            Leadlight x = new Leadlight();
            x.divide(0, 16 + column);
            E.due(0, () -> x.pieceOf(column));
            E.due(0, () -> x.pieceOf(240 + column));
            E.due(1, () -> x.pieceOf(column + 1));
            E.due(1, () -> x.pieceOf(241 + column));
            E.due(16 * column + 16, () -> x.piece(0, 0));
        }
        E.due(0, () -> new Leadlight().pieceOf(255));
        E.noPlace(Leadlight::new, x -> x.pieceOf(256));
        E.noPlace(Leadlight::new, x -> x.pieceOf(-1));
    }

    private static void eachCellIsOfOne() {
        E.says("Pieces", "Each cell is of one piece.");
        int[] counted = new int[60];
        Leadlight x = Windows.sixty();
        for (int cell : Windows.range(0, 255)) {
            counted[x.pieceOf(cell)]++;
        }
        for (int piece : Windows.range(0, 59)) {
            E.due(counted[piece], () -> x.piece(piece, 0));
            E.same(piece >= 44 && piece <= 47 ? 8 : 4, counted[piece]);
        }
    }

    private static void numberedUpToSixty() {
        E.says("Pieces", "Pieces are numbered from 0 as they come about, at most 60 ever");
        Leadlight x = new Leadlight();
        E.due(1, () -> x.divide(0, 7));
        E.due(2, () -> x.divide(0, 23));
        E.due(3, () -> x.divide(1, 23));
        E.due(128, () -> x.join(0, 1));
        E.due(4, () -> x.divide(0, 7));
        E.due(59, () -> Windows.fiftyNine().divide(43, 27));
        E.badState(Windows::sixty, w -> w.divide(44, 27));
        E.badState(() -> {
            Leadlight full = Windows.sixty();
            full.join(44, 45);
            return full;
        }, w -> w.divide(44, 12));
        E.noPlace(Windows::sixty, w -> w.piece(60, 0));
        E.noPlace(Windows::fiftyNine, w -> w.piece(59, 0));
    }

    private static void allOfTheFirst() {
        E.says("Pieces", "at first all cells are of the piece 0.");
        Leadlight x = new Leadlight();
        for (int cell : Windows.range(0, 255)) {
            E.due(0, () -> x.pieceOf(cell));
        }
    }

    private static void atFirst() {
        E.says("Pieces", "A piece has a colour, 0 to 7, 0 at first, is original or not, at first not, and whole, broken or "
                + "mended, at first whole");
        Leadlight x = new Leadlight();
        E.due(0, () -> x.piece(0, 1));
        E.due(0, () -> x.piece(0, 2));
        E.due(0, () -> x.piece(0, 3));
        for (int colour : Windows.range(0, 7)) {
            x.colour(0, colour);
            E.due(colour, () -> x.piece(0, 1));
        }
        E.badArgument(Windows::quarters, w -> w.colour(3, -1));
        E.badArgument(Windows::quarters, w -> w.colour(3, 8));
    }

    private static void gone() {
        E.says("Pieces", "one without cells is gone.");
        E.due(1, () -> Windows.corner().piece(0, 0));
        E.due(3, () -> Windows.corner().pieces());
        E.noPlace(Windows::oneGone, x -> x.piece(1, 0));
        E.due(3, () -> Windows.oneGone().pieces());
        // A piece of one cell is gone once that is of another piece.
        Leadlight x = Windows.corner();
        E.due(16, () -> x.join(2, 0));
        E.due(2, x::pieces);
        E.noPlace(() -> x.piece(0, 0));
    }

    private static void neighboursShareASide() {
        E.says("Pieces", "Neighbours are cells that share a side");
        // Quarters meet in the corner of the cells 119, 120, 135 and 136.
        E.badState(Windows::quarters, x -> x.give(119, 3));
        E.badState(Windows::quarters, x -> x.give(136, 0));
        E.badState(Windows::quarters, x -> x.give(120, 1));
        E.badState(Windows::quarters, x -> x.give(135, 2));
        E.due(0, () -> Windows.quarters().give(119, 1));
        E.due(0, () -> Windows.quarters().give(119, 2));
        E.due(3, () -> Windows.quarters().give(136, 1));
        E.due(3, () -> Windows.quarters().give(136, 2));
        E.badState(Windows::quarters, x -> x.join(0, 3));
        E.badState(Windows::quarters, x -> x.join(3, 0));
        E.badState(Windows::quarters, x -> x.join(1, 2));
        E.badState(Windows::quarters, x -> x.join(2, 1));
        // Two cells away is no neighbour.
        E.badState(Windows::halves, x -> x.give(144, 0));
        E.badState(Windows::halves, x -> x.give(96, 1));
        E.badState(Windows::leftColumn, x -> x.give(2, 0));
        E.badState(Windows::rightColumn, x -> x.give(13, 1));
    }

    private static Leadlight threeColumns() {
        Leadlight x = Windows.leftColumn();
        x.divide(1, 30);
        return x;
    }

    private static Leadlight threeRows() {
        Leadlight x = Windows.topRow();
        x.divide(1, 14);
        return x;
    }

    /** The end of a row is no neighbour of the next row's begin, nor the last row of the first. */
    private static void rowsAndColumnsDoNotWrap() {
        E.says("Pieces", "Neighbours are cells that share a side");
        E.badState(Windows::rightColumn, x -> x.give(16, 1));
        E.badState(Windows::rightColumn, x -> x.give(0, 1));
        E.badState(Windows::rightColumn, x -> x.give(240, 1));
        E.badState(Windows::leftColumn, x -> x.give(15, 0));
        E.badState(Windows::leftColumn, x -> x.give(31, 0));
        E.badState(Windows::leftColumn, x -> x.give(255, 0));
        E.badState(Windows::bottomRow, x -> x.give(0, 1));
        E.badState(Windows::bottomRow, x -> x.give(15, 1));
        E.badState(Windows::topRow, x -> x.give(240, 0));
        E.badState(Windows::topRow, x -> x.give(255, 0));
        E.badState(EdgesOfPieces::threeColumns, x -> x.join(0, 2));
        E.badState(EdgesOfPieces::threeColumns, x -> x.join(2, 0));
        E.badState(EdgesOfPieces::threeRows, x -> x.join(0, 2));
        E.badState(EdgesOfPieces::threeRows, x -> x.join(2, 0));
        E.due(240, () -> threeColumns().join(0, 1));
        E.due(240, () -> threeRows().join(2, 1));
    }

    private static void alwaysConnected() {
        E.says("Pieces", "a piece is always connected by neighbours of its own.");
        // Row 0 and the cell 16: without the cell 5, 15 and 16 are no neighbours.
        E.badState(() -> Windows.give(Windows.topRow(), 0, 16), x -> x.give(5, 1));
        // The cells 17, 18 and 33: without 17, the other two touch at a corner only.
        E.badState(EdgesOfPieces::threeOfASquare, x -> x.give(17, 0));
        E.badState(EdgesOfPieces::threeOfASquare, x -> x.give(17, 1));
        E.due(2, () -> threeOfASquare().give(18, 0));
        E.due(2, () -> threeOfASquare().give(33, 1));
        // A ring of eight cells is connected without one of them, but not without one more across.
        Leadlight ring = Windows.ring();
        E.due(8, () -> ring.piece(0, 0));
        E.due(0, () -> ring.give(33, 1));
        E.badState(() -> ring.give(1, 5));
        E.badState(() -> ring.give(16, 5));
        E.due(0, () -> ring.give(34, 1));
    }

    /** Pieces that only the cells at an edge of the opening, or a way all round, hold together. */
    private static void connectedAlongTheEdges() {
        E.says("Pieces", "a piece is always connected by neighbours of its own.");
        E.due(0, () -> Windows.give(Windows.topRow(), 0, 16, 31).give(31, 1));
        E.due(1, () -> Windows.give(Windows.bottomRow(), 1, 224, 239).give(239, 0));
        E.due(1, () -> Windows.give(Windows.bottomRow(), 1, 224, 239).give(224, 0));
        E.due(1, () -> Windows.give(Windows.bottomRow(), 1, 224, 239, 230).give(239, 0));
        E.due(0, () -> Windows.give(Windows.leftColumn(), 0, 1, 241, 97).give(1, 1));
        E.due(1, () -> Windows.give(Windows.rightColumn(), 1, 14, 254, 110).give(254, 0));
        // The left column, the lowest row and the right column are one way from the upper left to the upper right.
        E.due(46, () -> threeSides().piece(0, 0));
        E.due(0, () -> threeSides().give(15, 1));
        E.due(0, () -> threeSides().give(0, 1));
        E.due(0, () -> Windows.give(threeSides(), 0, 1).give(15, 1));
        E.badState(EdgesOfPieces::threeSides, x -> x.give(31, 1));
        E.badState(EdgesOfPieces::threeSides, x -> x.give(245, 1));
    }

    private static Leadlight threeSides() {
        Leadlight x = Windows.leftColumn();
        for (int cell : Windows.range(241, 255)) {
            x.give(cell, 0);
        }
        for (int row = 14; row >= 0; row--) {
            x.give(16 * row + 15, 0);
        }
        return x;
    }

    /** 2 is the cells 17, 18 and 33, 0 is above it, 1 to the left, 3 below, 4 to the right. */
    private static Leadlight threeOfASquare() {
        return Windows.give(square(), 3, 34);
    }

    private static void lines() {
        E.says("Pieces", "A line is 0 to 14 for the line behind the row of that number, 16 to 30 for that behind the column "
                + "of 16 less.");
        for (int line : Windows.range(0, 14)) {
            Leadlight x = new Leadlight();
            E.due(1, () -> x.divide(0, line));
            E.due(line + 1, () -> x.piece(0, 5));
            E.due(16, () -> x.piece(0, 6));
            E.due(15 - line, () -> x.piece(1, 5));
        }
        for (int line : Windows.range(16, 30)) {
            Leadlight x = new Leadlight();
            E.due(1, () -> x.divide(0, line));
            E.due(16, () -> x.piece(0, 5));
            E.due(line - 15, () -> x.piece(0, 6));
            E.due(31 - line, () -> x.piece(1, 6));
        }
        for (int line : new int[] {-1, 15, 31, 32, 47, -16, Integer.MIN_VALUE, Integer.MAX_VALUE}) {
            E.badArgument(Leadlight::new, x -> x.divide(0, line));
        }
    }

    private static void becomeANewPiece() {
        E.says("Pieces", "its cells beyond it, below or to the right, become a new piece of the same colour, whole, not "
                + "original, without layers");
        for (int line : new int[] {6, 23}) {
            Leadlight x = Windows.fullyPainted();
            x.colour(0, 7);
            x.crack(0);
            E.due(2, () -> x.divide(0, line));
            E.due(0, () -> x.pieceOf(0));
            E.due(2, () -> x.pieceOf(line == 6 ? 112 : 8));
            int[] due = {line == 6 ? 16 : 64, 7, 0, 0};
            for (int what : Windows.range(0, 3)) {
                E.due(due[what], () -> x.piece(2, what));
            }
            for (int what : Windows.range(7, 9)) {
                E.due(0, () -> x.piece(2, what));
                E.due(what == 7 ? 5 : 1, () -> x.piece(0, what));
            }
            E.due(1, () -> x.piece(0, 3));
            x.fire(2, 750);
            E.due(0, () -> x.piece(2, 9));
        }
        // One that is original no longer may be divided; both parts are not original.
        Leadlight x = Windows.halfFinished();
        E.due(2, () -> x.divide(0, 0));
        E.due(0, () -> x.piece(0, 2));
        E.due(0, () -> x.piece(2, 2));
    }

    /** The piece 1 is the rows 4 to 7. */
    private static Leadlight middleRows() {
        Leadlight x = new Leadlight();
        x.divide(0, 3);
        x.divide(1, 7);
        return x;
    }

    /** The piece 1 is the columns 4 to 7. */
    private static Leadlight middleColumns() {
        Leadlight x = new Leadlight();
        x.divide(0, 19);
        x.divide(1, 23);
        return x;
    }

    private static void bothMustHaveCells() {
        E.says("Pieces", "both must have cells and be connected.");
        for (int line : Windows.range(4, 6)) {
            E.due(3, () -> middleRows().divide(1, line));
            E.due(3, () -> middleColumns().divide(1, 16 + line));
        }
        for (int line : new int[] {0, 2, 3, 7, 8, 14}) {
            E.badState(EdgesOfPieces::middleRows, x -> x.divide(1, line));
            E.badState(EdgesOfPieces::middleColumns, x -> x.divide(1, 16 + line));
        }
        // A piece of one cell is divided by no line at all.
        for (int line : new int[] {0, 14, 16, 30}) {
            E.badState(Windows::corner, x -> x.divide(0, line));
        }
    }

    private static void bothMustBeConnected() {
        E.says("Pieces", "both must have cells and be connected.");
        E.due(2, () -> Windows.give(Windows.topRow(), 0, 16).divide(0, 0));
        E.badState(() -> Windows.give(Windows.topRow(), 0, 16, 31), x -> x.divide(0, 0));
        E.due(2, () -> Windows.give(Windows.bottomRow(), 1, 224).divide(1, 14));
        E.badState(() -> Windows.give(Windows.bottomRow(), 1, 224, 239), x -> x.divide(1, 14));
        E.due(2, () -> Windows.give(Windows.leftColumn(), 0, 1).divide(0, 16));
        E.badState(() -> Windows.give(Windows.leftColumn(), 0, 1, 241), x -> x.divide(0, 16));
        E.due(2, () -> Windows.give(Windows.rightColumn(), 1, 14).divide(1, 30));
        E.badState(() -> Windows.give(Windows.rightColumn(), 1, 14, 254), x -> x.divide(1, 30));
        // Beyond the line are 31 and, in the next row, 32: the row's end is no neighbour of it.
        E.badState(() -> Windows.give(Windows.topRow(), 0, 16, 32, 31), x -> x.divide(0, 0));
        // Two that touch, and parts that only the piece's other side holds together.
        E.due(2, () -> Windows.give(Windows.topRow(), 0, 16, 17).divide(0, 0));
        E.badState(() -> Windows.give(Windows.topRow(), 0, 16, 18), x -> x.divide(0, 0));
    }

    /** Beyond line 0 the piece 0 has the cells 16 to 19 and, round the cell 20, which is the piece 3, 36, 37 and 21. */
    private static Leadlight pocket() {
        Leadlight x = Windows.topRow();
        x.divide(1, 1);
        x.divide(1, 19);
        x.divide(3, 20);
        x.join(0, 1);
        return Windows.give(x, 0, 21, 37, 36);
    }

    private static void partsTouchAtACornerOnly() {
        E.says("Pieces", "both must have cells and be connected.");
        E.badState(EdgesOfPieces::pocket, x -> x.divide(0, 0));
        E.due(5, () -> Windows.give(pocket(), 0, 35).divide(0, 0));
    }

    private static void whatItLeaves() {
        E.says("Pieces", "To give a cell to a piece of which a neighbour is: what it leaves must have cells and be "
                + "connected.");
        Leadlight x = new Leadlight();
        x.divide(0, 0);
        x.divide(0, 17);
        E.due(0, () -> x.give(0, 1));
        E.badState(() -> x.give(1, 1));
        E.badState(Windows::corner, w -> w.give(0, 1));
        E.badState(Windows::corner, w -> w.give(0, 2));
        E.badState(Windows::topRow, w -> w.give(1, 1));
        E.due(0, () -> Windows.topRow().give(0, 1));
        E.badState(Windows::topRow, w -> w.give(14, 1));
        E.due(0, () -> Windows.topRow().give(15, 1));
        E.badState(Windows::leftColumn, w -> w.give(16, 1));
        E.due(0, () -> Windows.leftColumn().give(240, 1));
        E.badState(Windows::rightColumn, w -> w.give(239, 0));
        E.due(1, () -> Windows.rightColumn().give(15, 0));
        // Of a square of four cells each can go.
        for (int cell : new int[] {17, 18}) {
            E.due(2, () -> square().give(cell, 0));
            E.due(2, () -> square().give(cell + 16, 3));
        }
    }

    /** 2 is the cells 17, 18, 33 and 34. */
    private static Leadlight square() {
        Leadlight x = new Leadlight();
        Windows.cutOut(x, 1, 1, 2, 2);
        return x;
    }

    private static void allOfTheOther() {
        E.says("Pieces", "To join a piece with another one that has a neighbour of it: all cells of the other one are of "
                + "the first one, which stays as it is otherwise.");
        Leadlight x = Windows.fullyPainted();
        x.colour(0, 3);
        x.colour(1, 4);
        x.crack(0);
        x.crack(255);
        x.mend(1);
        E.due(256, () -> x.join(0, 1));
        int[] due = {256, 3, 0, 1, 0, 16, 16, 5, 1, 1};
        for (int what : Windows.range(0, 9)) {
            E.due(due[what], () -> x.piece(0, what));
        }
        E.due(0, () -> x.pieceOf(128));
        E.due(0, () -> x.pieceOf(255));
        Leadlight y = Windows.fullyPainted();
        y.crack(0);
        E.due(256, () -> y.join(1, 0));
        int[] plain = {256, 0, 0, 0, 0, 16, 16, 0, 0, 0};
        for (int what : Windows.range(0, 9)) {
            E.due(plain[what], () -> y.piece(1, what));
        }
        // One side that is shared is enough: the cell 0 and the cell 1.
        E.due(16, () -> Windows.corner().join(0, 2));
    }

    private static void sideBySide() {
        E.says("Pieces", "A piece can be cut (0), if not: 1 in some row or column its cells are not all side by side");
        E.due(0, () -> new Leadlight().piece(0, 4));
        // Two rows with legs of two by two cells: from one such leg to two that leave one column free.
        Leadlight rows = new Leadlight();
        rows.divide(0, 1);
        Windows.give(rows, 0, 32, 33, 48, 49);
        E.due(0, () -> rows.piece(0, 4));
        Windows.give(rows, 0, 35, 36, 51, 52);
        E.due(1, () -> rows.piece(0, 4));
        Windows.give(rows, 0, 34);
        E.due(1, () -> rows.piece(0, 4));
        Windows.give(rows, 0, 50);
        E.due(0, () -> rows.piece(0, 4));
        Leadlight columns = new Leadlight();
        columns.divide(0, 17);
        Windows.give(columns, 0, 2, 3, 18, 19);
        E.due(0, () -> columns.piece(0, 4));
        Windows.give(columns, 0, 50, 51, 66, 67);
        E.due(1, () -> columns.piece(0, 4));
        Windows.give(columns, 0, 34);
        E.due(1, () -> columns.piece(0, 4));
        Windows.give(columns, 0, 35);
        E.due(0, () -> columns.piece(0, 4));
        // A gap is one from end to end of the opening too.
        Leadlight frame = Windows.give(Windows.topRow(), 0, 16, 31);
        E.due(1, () -> frame.piece(0, 4));
        Leadlight sides = Windows.give(Windows.leftColumn(), 0, 1, 241);
        E.due(1, () -> sides.piece(0, 4));
        E.due(1, () -> Windows.island().piece(0, 4));
        E.due(1, () -> Windows.ring().piece(0, 4));
    }

    private static int faultOf(int row, int column, int lastRow, int lastColumn) {
        Leadlight x = new Leadlight();
        return x.piece(Windows.cutOut(x, row, column, lastRow, lastColumn), 4);
    }

    private static void inNoSquare() {
        E.says("Pieces", "2 some cell of it is in no square of 2 by 2 cells of it.");
        for (int row : new int[] {0, 7, 14}) {
            for (int column : new int[] {0, 7, 14}) {
                E.due(0, () -> faultOf(row, column, row + 1, column + 1));
                E.due(2, () -> faultOf(row, column, row, column + 1));
                E.due(2, () -> faultOf(row, column, row + 1, column));
                E.due(2, () -> faultOf(row, column, row, column));
            }
        }
        E.due(2, () -> faultOf(15, 14, 15, 15));
        E.due(2, () -> faultOf(14, 15, 15, 15));
        E.due(2, () -> faultOf(15, 15, 15, 15));
        E.due(2, () -> faultOf(0, 0, 0, 15));
        E.due(2, () -> faultOf(0, 15, 15, 15));
        E.due(0, () -> faultOf(0, 14, 15, 15));
        // Three rows by three columns without two corners across: each cell is in one of two squares.
        Leadlight x = new Leadlight();
        Windows.cutOut(x, 0, 0, 2, 2);
        Windows.give(x, 1, 32);
        E.due(0, () -> x.piece(0, 4));
        Windows.give(x, 2, 2);
        E.due(0, () -> x.piece(0, 4));
        Windows.give(x, 2, 18);
        E.due(2, () -> x.piece(0, 4));
        // Neither side by side nor in a square is told as 1.
        E.due(1, () -> Windows.give(Windows.topRow(), 0, 16, 18).piece(0, 4));
    }

    private static int bestLineOf(int row, int column, int lastRow, int lastColumn) {
        Leadlight x = new Leadlight();
        return x.bestLine(Windows.cutOut(x, row, column, lastRow, lastColumn));
    }

    private static final String BEST_LINE = "The best line for a piece, be it original or not, is that by which its cells "
            + "become two connected parts which can both be cut, with the fewest sides of cells along it between both, of "
            + "several the lowest.";

    private static void bestLineIsTheFewest() {
        E.says("Pieces", BEST_LINE);
        // All lines of the whole have 16 sides: of those from 1 to 13 and 17 to 29, the lowest.
        E.due(1, () -> new Leadlight().bestLine(0));
        E.due(17, () -> bestLineOf(0, 0, 14, 15));
        E.due(1, () -> bestLineOf(0, 0, 15, 14));
        E.due(1, () -> bestLineOf(0, 0, 4, 4));
        E.due(17, () -> bestLineOf(0, 0, 3, 4));
        E.due(1, () -> bestLineOf(0, 0, 4, 3));
        E.due(1, () -> bestLineOf(0, 0, 3, 3));
        E.due(3, () -> bestLineOf(2, 2, 15, 14));
        E.due(13, () -> bestLineOf(12, 13, 15, 15));
        E.due(29, () -> bestLineOf(13, 12, 15, 15));
        Leadlight original = new Leadlight();
        original.finish();
        E.due(1, () -> original.bestLine(0));
        // Of sixty pieces, though none may come about any more.
        Leadlight full = Windows.sixty();
        E.due(8, () -> full.join(0, 1));
        E.due(12, () -> full.join(0, 2));
        E.due(16, () -> full.join(0, 3));
        E.due(1, () -> full.bestLine(0));
    }

    private static void bestLineAcrossANeck() {
        E.says("Pieces", BEST_LINE);
        // Two rows, and then one, between blocks of four rows: the fewest sides, and the lowest line of several such.
        for (int[] taken : new int[][] {{52, 53, 36, 37}, {52, 36}}) {
            Leadlight rows = new Leadlight();
            rows.divide(0, 3);
            Windows.give(rows, 1, taken);
            E.due(1, () -> rows.piece(0, 4));
            E.due(19, () -> rows.bestLine(0));
            rows.finish();
            E.due(19, () -> rows.bestLine(0));
        }
        for (int[] taken : new int[][] {{67, 83, 66, 82}, {67, 66}}) {
            Leadlight columns = new Leadlight();
            columns.divide(0, 19);
            Windows.give(columns, 1, taken);
            E.due(1, () -> columns.piece(0, 4));
            E.due(3, () -> columns.bestLine(0));
            columns.finish();
            E.due(3, () -> columns.bestLine(0));
        }
    }

    private static void bestLineOfPartsThatCanBeCut() {
        E.says("Pieces", BEST_LINE);
        E.due(-1, () -> bestLineOf(0, 0, 2, 2));
        E.due(-1, () -> bestLineOf(13, 13, 15, 15));
        E.due(-1, () -> bestLineOf(0, 0, 0, 15));
        E.due(-1, () -> bestLineOf(0, 15, 15, 15));
        E.due(-1, () -> bestLineOf(5, 5, 5, 5));
        E.due(-1, () -> bestLineOf(0, 0, 1, 2));
        E.due(17, () -> bestLineOf(0, 0, 1, 3));
        E.due(1, () -> bestLineOf(0, 0, 3, 1));
        E.due(21, () -> bestLineOf(8, 4, 9, 7));
        // Both parts must have cells: lines aside of the piece have no side along them, and are none for it.
        E.due(1, () -> bestLineOf(0, 0, 3, 2));
        E.due(17, () -> bestLineOf(0, 0, 2, 3));
        // A piece that cannot be cut has a line if its parts can: across two legs, parts are not connected.
        Leadlight legs = new Leadlight();
        legs.divide(0, 1);
        Windows.give(legs, 0, 32, 33, 48, 49, 46, 47, 62, 63);
        E.due(1, () -> legs.piece(0, 4));
        E.due(17, () -> legs.bestLine(0));
        // With a leg of one column at the left, only lines between both parts that are thick count.
        Leadlight thin = new Leadlight();
        thin.divide(0, 1);
        Windows.give(thin, 0, 32);
        E.due(-1, () -> thin.bestLine(0));
    }
}
