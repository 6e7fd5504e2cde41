/** The section 'Bars, wind' and the promises 9, 28 and 29, sentence by sentence, at their edges. */
final class EdgesOfBars {
    private static final Edges E = EdgesTest.EDGES;
    private static final String TERMS = "Bars, wind";
    private static final String NO_LINE = "Throws `IndexOutOfBoundsException` if there is no such line";
    private static final int[] NO_ROWS = {-1, 15, 16, 30, 31, 32, 46, -16, -32, Integer.MIN_VALUE, Integer.MAX_VALUE};

    private EdgesOfBars() {
    }

    static void all() {
        atMostFive();
        bar();
        barRefused();
        crosses();
        crossesRightThere();
        panels();
        bends();
        thirdPower();
        bendsRefused();
    }

    private static Leadlight barred(int... rows) {
        Leadlight x = new Leadlight();
        for (int row : rows) {
            x.bar(row);
        }
        return x;
    }

    private static void atMostFive() {
        E.says(TERMS, "Bars lie along lines behind rows, at most 5.");
        E.due(false, () -> barred(0, 1, 2, 3).bar(14));
        E.badState(() -> barred(0, 1, 2, 3, 14), x -> x.bar(4));
        E.badState(Windows::fullyBarred, x -> x.bar(0));
        E.due(true, () -> Windows.fullyBarred().bar(13));
    }

    private static void bar() {
        E.says("Promise 9", "Lays a bar, or takes it away.");
        Leadlight x = new Leadlight();
        x.bar(7);
        E.due(8, () -> x.bends(0, 1));
        E.due(8, () -> x.bends(1, 1));
        x.bar(7);
        E.due(64, () -> x.bends(0, 1));
        E.noPlace(() -> x.bends(1, 1));
        E.says("Promise 9", "`row`: 0 to 14: the line behind that row");
        for (int row : Windows.range(0, 14)) {
            int above = row + 1;
            int below = 15 - row;
            E.due(9 * above * above * above / 64, () -> barred(row).bends(0, 9));
            E.due(9 * below * below * below / 64, () -> barred(row).bends(1, 9));
        }
        E.says("Promise 9", "Returns whether it was there.");
        for (int row : Windows.range(0, 14)) {
            E.due(false, () -> new Leadlight().bar(row));
            E.due(true, () -> barred(row).bar(row));
            E.due(false, () -> barred(row, row).bar(row));
            E.due(false, () -> barred(row == 0 ? 14 : row - 1).bar(row));
        }
    }

    private static void barRefused() {
        E.says("Promise 9", NO_LINE);
        for (int row : NO_ROWS) {
            E.noPlace(() -> barred(0, 14), x -> x.bar(row));
            E.noPlace(Windows::fullyBarred, x -> x.bar(row));
        }
        E.says("Promise 9", "Throws `IllegalStateException` if it is not there, and there are 5");
        for (int row : new int[] {0, 2, 3, 5, 6, 8, 9, 11, 12, 14}) {
            E.badState(Windows::fullyBarred, x -> x.bar(row));
        }
        for (int row : new int[] {1, 4, 7, 10, 13}) {
            E.due(true, () -> Windows.fullyBarred().bar(row));
            Leadlight x = Windows.fullyBarred();
            x.bar(row);
            E.due(false, () -> x.bar(14));
            E.badState(() -> x.bar(row));
        }
    }

    private static void crosses() {
        E.says(TERMS, "A bar crosses the pieces that have cells on both of its sides in one column, right there.");
        for (int row : Windows.range(0, 14)) {
            E.due(1, () -> new Leadlight().crosses(row));
            E.due(row == 7 ? 0 : 2, () -> Windows.quarters().crosses(row));
            E.due(row == 0 ? 0 : 1, () -> Windows.topRow().crosses(row));
            E.due(row == 14 ? 0 : 1, () -> Windows.bottomRow().crosses(row));
            E.due(0, () -> Windows.sixty().crosses(row));
        }
        E.says("Promise 28", "Returns how many pieces a line behind a row would cross, or crosses, as a bar.");
        Leadlight x = Windows.quarters();
        E.due(2, () -> x.crosses(3));
        x.bar(3);
        E.due(2, () -> x.crosses(3));
        x.bar(3);
        E.due(2, () -> x.crosses(3));
        // Sixteen columns as sixteen pieces.
        Leadlight columns = new Leadlight();
        for (int column : Windows.range(0, 14)) {
            columns.divide(column, 16 + column);
        }
        E.due(16, () -> columns.crosses(0));
        E.due(16, () -> columns.crosses(14));
        E.says("Promise 28", NO_LINE);
        for (int row : NO_ROWS) {
            E.noPlace(Windows::quarters, w -> w.crosses(row));
        }
    }

    private static void crossesRightThere() {
        E.says(TERMS, "A bar crosses the pieces that have cells on both of its sides in one column, right there.");
        Leadlight x = Windows.halves();
        E.due(0, () -> x.crosses(7));
        x.give(128, 0);
        E.due(1, () -> x.crosses(7));
        x.give(143, 0);
        E.due(1, () -> x.crosses(7));
        x.give(112 + 5, 1);
        E.due(2, () -> x.crosses(7));
        x.give(117, 0);
        E.due(1, () -> x.crosses(7));
        // Cells on one of its sides only, at the end of the piece.
        E.due(1, () -> Windows.give(Windows.halves(), 0, 128, 129, 130).crosses(8));
    }

    private static void panels() {
        E.says(TERMS, "Panels are what is between bars, and the ends of the opening.");
        // One bar more, one panel more.
        int[] rows = {2, 5, 8, 11, 14};
        Leadlight x = new Leadlight();
        for (int bars : Windows.range(0, 5)) {
            int left = 16 - 3 * bars;
            E.due(9 * left * left * left / 64, () -> x.bends(bars, 9));
            E.noPlace(() -> x.bends(bars + 1, 9));
            for (int panel : Windows.range(0, bars)) {
                E.due(panel < bars ? 3 : 8 * left * left * left / 64, () -> x.bends(panel, 8));
            }
            if (bars < 5) {
                x.bar(rows[bars]);
            }
        }
        E.says("Promise 29", "`panel`: 0 for the uppermost one");
        E.due(8, () -> barred(7).bends(0, 1));
        E.due(0, () -> barred(1).bends(0, 1));
        E.due(42, () -> barred(1).bends(1, 1));
        E.due(42, () -> barred(13).bends(0, 1));
        E.due(0, () -> barred(13).bends(1, 1));
        // In whatever order they are laid.
        E.due(8, () -> barred(14, 0, 8).bends(1, 1));
        E.due(3, () -> barred(14, 0, 8).bends(2, 1));
    }

    private static final String BENDS = "A panel bends under a wind, 0 to 9, by the wind times the third power of how many "
            + "rows it has, divided by 64, rounded down.";

    private static void bends() {
        E.says("Promise 29", "Returns how much a panel bends.");
        E.due(576, () -> new Leadlight().bends(0, 9));
        E.due(0, () -> new Leadlight().bends(0, 0));
        E.says("Promise 29", "`wind`: 0 to 9");
        for (int wind : Windows.range(0, 9)) {
            E.due(64 * wind, () -> new Leadlight().bends(0, wind));
            E.due(0, () -> barred(0).bends(0, wind));
        }
    }

    private static void thirdPower() {
        E.says(TERMS, BENDS);
        int[] thirds = {1, 8, 27, 64, 125, 216, 343, 512, 729, 1000, 1331, 1728, 2197, 2744, 3375};
        for (int rows : Windows.range(1, 15)) {
            for (int wind : Windows.range(0, 9)) {
                int due = wind * thirds[rows - 1] / 64;
                E.due(due, () -> barred(rows - 1).bends(0, wind));
                E.due(due, () -> barred(15 - rows).bends(1, wind));
            }
        }
        // 63 of 64 are nothing, 64 are one: 7 times 9 and 8 times 8.
        E.due(0, () -> barred(1).bends(0, 7));
        E.due(1, () -> barred(1).bends(0, 8));
        E.due(1, () -> barred(1).bends(0, 9));
        E.due(0, () -> barred(2).bends(0, 2));
        E.due(1, () -> barred(2).bends(0, 3));
    }

    private static void bendsRefused() {
        E.says("Promise 29", "Throws `IndexOutOfBoundsException` if there is no such panel");
        for (int panel : new int[] {-1, 1, 2, 6, 16, Integer.MIN_VALUE, Integer.MAX_VALUE}) {
            E.noPlace(Windows::halves, x -> x.bends(panel, 1));
            E.noPlace(Windows::halves, x -> x.bends(panel, 10));
        }
        E.due(0, () -> Windows.fullyBarred().bends(5, 1));
        E.noPlace(Windows::fullyBarred, x -> x.bends(6, 1));
        E.noPlace(Windows::fullyBarred, x -> x.bends(-1, 1));
        E.says("Promise 29", "Throws `IllegalArgumentException` if wind is out of range");
        for (int wind : new int[] {-1, 10, 11, -9, Integer.MIN_VALUE, Integer.MAX_VALUE}) {
            E.badArgument(Windows::halves, x -> x.bends(0, wind));
            E.badArgument(Windows::fullyBarred, x -> x.bends(5, wind));
        }
    }
}
