/** Windows that several tests start from. */
final class Windows {
    private Windows() {
    }

    /** The whole numbers from the least to the most, both with them. */
    static int[] range(int least, int most) {
        int[] numbers = new int[most - least + 1];
        for (int at = 0; at < numbers.length; at++) {
            numbers[at] = least + at;
        }
        return numbers;
    }

    /** 0 is rows 0 to 7, 1 is rows 8 to 15. */
    static Leadlight halves() {
        Leadlight x = new Leadlight();
        x.divide(0, 7);
        return x;
    }

    /** 0 is row 0, 1 is all other rows. */
    static Leadlight topRow() {
        Leadlight x = new Leadlight();
        x.divide(0, 0);
        return x;
    }

    /** 0 is rows 0 to 14, 1 is row 15. */
    static Leadlight bottomRow() {
        Leadlight x = new Leadlight();
        x.divide(0, 14);
        return x;
    }

    /** 0 is column 0, 1 is all other columns. */
    static Leadlight leftColumn() {
        Leadlight x = new Leadlight();
        x.divide(0, 16);
        return x;
    }

    /** 0 is columns 0 to 14, 1 is column 15. */
    static Leadlight rightColumn() {
        Leadlight x = new Leadlight();
        x.divide(0, 30);
        return x;
    }

    /** 0 is the cell 0 alone, 1 is rows 1 to 15, 2 is the rest of row 0. */
    static Leadlight corner() {
        Leadlight x = topRow();
        x.divide(0, 16);
        return x;
    }

    /** 0 and 1 as in halves, both original, whole. */
    static Leadlight finished() {
        Leadlight x = halves();
        x.finish();
        return x;
    }

    /** As finished, but that 0 is replaced, so that it is no longer original. */
    static Leadlight halfFinished() {
        Leadlight x = finished();
        x.crack(0);
        x.replace(0, 0);
        return x;
    }

    /** Quarters, of which 1 is gone: 0 is columns 0 to 7, 2 upper right, 3 lower right. */
    static Leadlight oneGone() {
        Leadlight x = quarters();
        x.join(0, 1);
        return x;
    }

    /** Halves; 0 has five layers, one spoiled, one fired, three of them neither. */
    static Leadlight fullyPainted() {
        Leadlight x = halves();
        for (int heat : new int[] {500, 540, 580, 620, 660}) {
            x.paint(0, heat);
        }
        x.fire(0, 560);
        return x;
    }

    /** Halves, with bars behind the rows 1, 4, 7, 10 and 13. */
    static Leadlight fullyBarred() {
        Leadlight x = halves();
        for (int row : new int[] {1, 4, 7, 10, 13}) {
            x.bar(row);
        }
        return x;
    }

    /** Four squares of 8 by 8: 0 upper left, 1 lower left, 2 upper right, 3 lower right. */
    static Leadlight quarters() {
        Leadlight x = halves();
        x.divide(0, 23);
        x.divide(1, 23);
        return x;
    }

    /** The piece 1 is the cell 229 alone, in row 14 and column 5, all around it is the piece 0. */
    static Leadlight island() {
        Leadlight x = bottomRow();
        x.give(229, 1);
        for (int cell = 240; cell < 245; cell++) {
            x.give(cell, 0);
        }
        for (int cell = 255; cell >= 245; cell--) {
            x.give(cell, 0);
        }
        return x;
    }

    /** 0 is all cells of rows 0 to 2 and columns 0 to 2 but for the cell 17, which is the piece 5. */
    static Leadlight ring() {
        Leadlight x = new Leadlight();
        x.divide(0, 2);
        x.divide(0, 18);
        x.divide(0, 0);
        x.divide(3, 1);
        x.divide(3, 16);
        x.divide(5, 17);
        x.join(0, 3);
        x.join(0, 4);
        x.join(0, 6);
        return x;
    }

    /** 0 is the columns 0 to 14, 1 is column 15 but for the cell 255, which is the piece 2. */
    static Leadlight lastCell() {
        Leadlight x = rightColumn();
        x.divide(1, 14);
        return x;
    }

    /** Cells that are given to a piece, one after the other. */
    static Leadlight give(Leadlight x, int piece, int... cells) {
        for (int cell : cells) {
            x.give(cell, piece);
        }
        return x;
    }

    /** The box from a row and column to another row and column, within one box, becomes a piece; answers its number. */
    static int cutOut(Leadlight x, int row, int column, int lastRow, int lastColumn) {
        int inside = x.pieceOf(16 * row + column);
        if (row > 0 && x.pieceOf(16 * (row - 1) + column) == inside) {
            inside = x.divide(inside, row - 1);
        }
        if (column > 0 && x.pieceOf(16 * row + column - 1) == inside) {
            inside = x.divide(inside, 15 + column);
        }
        if (lastRow < 15 && x.pieceOf(16 * (lastRow + 1) + column) == inside) {
            x.divide(inside, lastRow);
        }
        if (lastColumn < 15 && x.pieceOf(16 * row + lastColumn + 1) == inside) {
            x.divide(inside, 16 + lastColumn);
        }
        if (x.piece(inside, 0) != (lastRow - row + 1) * (lastColumn - column + 1)) {
            throw new AssertionError("the box lies in more than one");
        }
        return inside;
    }

    /** Sixty pieces: each row is cut into fours, but rows 12 to 15 have eight cells in their last piece. */
    static Leadlight sixty() {
        Leadlight x = fiftyNine();
        x.divide(43, 27);
        return x;
    }

    /** As sixty, but that the last four cells of row 11 are still of the piece 43. */
    static Leadlight fiftyNine() {
        Leadlight x = new Leadlight();
        for (int row = 0; row < 15; row++) {
            x.divide(row, row);
        }
        for (int row = 0; row < 16; row++) {
            x.divide(row, 19);
        }
        for (int row = 0; row < 16; row++) {
            x.divide(16 + row, 23);
        }
        for (int row = 0; row < 11; row++) {
            x.divide(32 + row, 27);
        }
        return x;
    }
}
