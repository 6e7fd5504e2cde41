/** Windows that several tests start from. */
final class Windows {
    private Windows() {
    }

    /** Four squares of 8 by 8: 0 upper left, 1 lower left, 2 upper right, 3 lower right. */
    static Leadlight quarters() {
        Leadlight x = new Leadlight();
        x.divide(0, 7);
        x.divide(0, 23);
        x.divide(1, 23);
        return x;
    }

    /** The piece 1 is the cell 229 alone, in row 14 and column 5, all around it is the piece 0. */
    static Leadlight island() {
        Leadlight x = new Leadlight();
        x.divide(0, 14);
        x.give(229, 1);
        for (int cell = 240; cell < 245; cell++) {
            x.give(cell, 0);
        }
        for (int cell = 255; cell >= 245; cell--) {
            x.give(cell, 0);
        }
        return x;
    }

    /** Cells that are given to a piece, one after the other. */
    static void give(Leadlight x, int piece, int... cells) {
        for (int cell : cells) {
            x.give(cell, piece);
        }
    }

    /** Sixty pieces: each row is cut into fours, but rows 12 to 15 have eight cells in their last piece. */
    static Leadlight sixty() {
        Leadlight x = new Leadlight();
        for (int row = 0; row < 15; row++) {
            x.divide(row, row);
        }
        for (int row = 0; row < 16; row++) {
            x.divide(row, 19);
        }
        for (int row = 0; row < 16; row++) {
            x.divide(16 + row, 23);
        }
        for (int row = 0; row < 12; row++) {
            x.divide(32 + row, 27);
        }
        return x;
    }
}
