/** The section 'Light' and the promises 26 and 27, sentence by sentence, at their edges. */
final class EdgesOfLight {
    private static final Edges E = EdgesTest.EDGES;
    private static final String RAY = "Through a cell with the height h, 16 less its row, light comes to the depth of 4 h "
            + "divided by that, rounded down, and to the column that is its own, and the hour less 12, times the depth, "
            + "divided by 8, rounded down, together";

    private EdgesOfLight() {
    }

    static void all() {
        hours();
        sun();
        depths();
        columns();
        anyColumn();
        asBits();
        brokenOnes();
        everyPlace();
        anyDepth();
        refused();
    }

    private static void shows(Leadlight x, int due, int depth, int column, int hour) {
        E.due(due, () -> x.floor(depth, column, hour));
        E.due(due, () -> x.floorAnew(depth, column, hour));
    }

    private static void hours() {
        E.says("Light", "The hour is 7 to 17");
        Leadlight x = new Leadlight();
        shows(x, 1, 4, -3, 7);
        shows(x, 1, 4, 2, 17);
        E.badArgument(Windows::quarters, w -> w.floor(4, 0, 6));
        E.badArgument(Windows::quarters, w -> w.floor(4, 0, 18));
        E.badArgument(Windows::quarters, w -> w.floorAnew(4, 0, 6));
        E.badArgument(Windows::quarters, w -> w.floorAnew(4, 0, 18));
    }

    private static void sun() {
        E.says("Light", "the sun stands at 6 less the difference of the hour and 12.");
        // The depths of the lowest row and of the uppermost one, and the column that the cell in column 0 comes to there.
        int[] lowest = {4, 2, 1, 1, 0, 0, 0, 1, 1, 2, 4};
        int[] uppermost = {64, 32, 21, 16, 12, 10, 12, 16, 21, 32, 64};
        int[] firstAside = {-3, -1, -1, -1, 0, 0, 0, 0, 0, 1, 2};
        int[] lastAside = {-40, -16, -8, -4, -2, 0, 1, 4, 7, 16, 40};
        for (int hour : Windows.range(7, 17)) {
            Leadlight x = new Leadlight();
            int at = hour - 7;
            shows(x, 1, lowest[at], firstAside[at], hour);
            shows(x, 1, lowest[at], firstAside[at] + 15, hour);
            shows(x, 0, lowest[at], firstAside[at] - 1, hour);
            shows(x, 0, lowest[at], firstAside[at] + 16, hour);
            shows(x, 0, lowest[at] - 1, firstAside[at] + 3, hour);
            shows(x, 1, uppermost[at], lastAside[at], hour);
            shows(x, 1, uppermost[at], lastAside[at] + 15, hour);
            shows(x, 0, uppermost[at], lastAside[at] - 1, hour);
            shows(x, 0, uppermost[at], lastAside[at] + 16, hour);
            shows(x, 0, uppermost[at] + 1, lastAside[at] + 3, hour);
        }
    }

    private static void depths() {
        E.says("Light", RAY);
        // At noon heights 1 and 2 come to 0 and 1, 3 and 4 both to 2, 5 to 3, .., 15 and 16 both to 10.
        int[] depths = {0, 1, 2, 2, 3, 4, 4, 5, 6, 6, 7, 8, 8, 9, 10, 10};
        for (int height : Windows.range(2, 15)) {
            Leadlight x = new Leadlight();
            // The row of that height and those below it are of the piece 1.
            x.divide(0, 15 - height);
            x.colour(1, 1);
            int own = depths[height - 1];
            int above = depths[height];
            shows(x, own == above ? 3 : 2, own, 5, 12);
            shows(x, own == above ? 3 : 1, above, 5, 12);
        }
        Leadlight both = new Leadlight();
        both.divide(0, 12);
        both.colour(1, 1);
        // Heights 4, of colour 0, and 3, of colour 1, come to 2; 2 comes to 1, and 5 to 3.
        shows(both, 3, 2, 5, 12);
        shows(both, 2, 1, 5, 12);
        shows(both, 1, 3, 5, 12);
        // At 11 the sun stands at 5: the heights 15 and 16 both come to 12, 14 to 11.
        Leadlight top = new Leadlight();
        top.divide(0, 0);
        top.colour(1, 1);
        shows(top, 3, 12, 5, 11);
        shows(top, 2, 11, 5, 11);
        shows(top, 0, 13, 5, 11);
        // At 7 no depth between two rows' is lit.
        for (int depth : Windows.range(-1, 66)) {
            boolean lit = depth >= 4 && depth <= 64 && depth % 4 == 0;
            shows(new Leadlight(), lit ? 1 : 0, depth, 5 + Math.floorDiv(-5 * depth, 8), 7);
        }
    }

    private static void columns() {
        E.says("Light", RAY);
        // The cell in column 0 is of colour 1, that in column 15 of colour 2, all between of colour 0.
        for (int hour : Windows.range(7, 17)) {
            Leadlight x = new Leadlight();
            x.divide(0, 16);
            x.divide(1, 30);
            x.colour(0, 1);
            x.colour(2, 2);
            int sun = hour < 12 ? hour - 6 : 18 - hour;
            for (int height : Windows.range(1, 16)) {
                int depth = 4 * height / sun;
                int eighths = (hour - 12) * depth;
                int aside = eighths >= 0 ? eighths / 8 : -((7 - eighths) / 8);
                shows(x, 0, depth, aside - 1, hour);
                shows(x, 2, depth, aside, hour);
                shows(x, 1, depth, aside + 1, hour);
                shows(x, 1, depth, aside + 14, hour);
                shows(x, 4, depth, aside + 15, hour);
                shows(x, 0, depth, aside + 16, hour);
            }
        }
    }

    private static void anyColumn() {
        E.says("Light", "a floor's column may be any.");
        Leadlight x = new Leadlight();
        shows(x, 1, 64, -40, 7);
        shows(x, 0, 64, -41, 7);
        shows(x, 1, 64, 55, 17);
        shows(x, 0, 64, 56, 17);
        for (int column : new int[] {Integer.MIN_VALUE, Integer.MIN_VALUE + 39, Integer.MIN_VALUE + 40, -256, 256,
            Integer.MAX_VALUE - 55, Integer.MAX_VALUE - 39, Integer.MAX_VALUE}) {
            for (int hour : Windows.range(7, 17)) {
                shows(new Leadlight(), 0, 64, column, hour);
                shows(new Leadlight(), 0, 4, column, hour);
            }
        }
        E.says("Promise 26", "`column`: any");
        E.due(0, () -> x.floor(4, Integer.MAX_VALUE, 17));
        E.due(0, () -> x.floor(4, Integer.MIN_VALUE, 7));
        E.says("Promise 27", "`column`: any");
        E.due(0, () -> x.floorAnew(4, Integer.MAX_VALUE, 17));
        E.due(0, () -> x.floorAnew(4, Integer.MIN_VALUE, 7));
    }

    private static final String SHOWS = "What a floor's cell shows is the colours of all cells from which light comes there, "
            + "broken ones with them, as bits.";

    private static void asBits() {
        E.says("Light", SHOWS);
        for (int colour : Windows.range(0, 7)) {
            Leadlight x = new Leadlight();
            x.colour(0, colour);
            shows(x, 1 << colour, 4, 0, 12);
            shows(x, 0, 4, 16, 12);
        }
        // Rows 9 and 10 both come to 4: two colours together, or the same one once.
        Leadlight x = new Leadlight();
        x.divide(0, 9);
        shows(x, 1, 4, 0, 12);
        x.colour(0, 7);
        shows(x, 129, 4, 0, 12);
        x.colour(1, 7);
        shows(x, 128, 4, 0, 12);
    }

    private static void brokenOnes() {
        E.says("Light", SHOWS);
        Leadlight x = new Leadlight();
        x.divide(0, 9);
        x.colour(0, 3);
        x.crack(0);
        shows(x, 8 + 1, 4, 0, 12);
        x.crack(255);
        shows(x, 8 + 1, 4, 0, 12);
        x.mend(0);
        shows(x, 8 + 1, 4, 0, 12);
        x.finish();
        shows(x, 8 + 1, 4, 0, 12);
        // Paint is not in the picture, and of one that is gone there is nothing.
        Leadlight gone = Windows.halves();
        gone.paint(0, 500);
        gone.colour(1, 6);
        gone.join(0, 1);
        shows(gone, 1, 0, 0, 12);
    }

    /** Sixty pieces of eight colours. */
    private static Leadlight coloured() {
        Leadlight x = Windows.sixty();
        for (int piece : Windows.range(0, 59)) {
            x.colour(piece, (piece * 5 + piece / 16) % 8);
        }
        return x;
    }

    /** All places that light can come to and those round them, each told from the cells one by one. */
    private static void everyPlace() {
        Leadlight told = coloured();
        int[] colours = new int[256];
        for (int cell : Windows.range(0, 255)) {
            colours[cell] = told.pieceOf(cell);
        }
        for (int cell : Windows.range(0, 255)) {
            colours[cell] = coloured().piece(colours[cell], 1);
        }
        for (int hour : Windows.range(7, 17)) {
            int[][] shown = new int[70][110];
            for (int cell : Windows.range(0, 255)) {
                int depth = 4 * (16 - cell / 16) / (hour < 12 ? hour - 6 : 18 - hour);
                int column = cell % 16 + (int) Math.floor((hour - 12) * depth / 8.0);
                shown[depth + 2][column + 44] |= 1 << colours[cell];
            }
            for (int depth : Windows.range(-2, 67)) {
                Leadlight x = coloured();
                int wrong = 0;
                for (int column : Windows.range(-44, 65)) {
                    int due = shown[depth + 2][column + 44];
                    wrong += x.floor(depth, column, hour) == due && x.floorAnew(depth, column, hour) == due ? 0 : 1;
                }
                E.says("Promise 26", "Returns what a floor's cell shows.");
                E.same(0, wrong);
                E.says("Promise 27", "Returns the same, back along the rays.");
                E.same(0, wrong);
            }
        }
    }

    private static void anyDepth() {
        int[] depths = {-1, 65, 66, 128, -4, -64, 1 << 29, (1 << 29) + 4, 1 << 30, (1 << 30) + 1, (1 << 30) + 4,
            715827882, 715827883, 715827884, 429496729, 429496730, Integer.MAX_VALUE - 1, Integer.MAX_VALUE,
            Integer.MIN_VALUE, Integer.MIN_VALUE + 4};
        for (int depth : depths) {
            Leadlight x = new Leadlight();
            for (int hour : Windows.range(7, 17)) {
                for (int column : new int[] {0, 5, (hour - 12) * depth / 8, Math.floorDiv((hour - 12) * depth, 8) + 3,
                    (int) Math.floorDiv((hour - 12L) * depth, 8L) + 3}) {
                    E.says("Promise 26", "`depth`: any");
                    E.due(0, () -> x.floor(depth, column, hour));
                    E.says("Promise 27", "`depth`: any");
                    E.due(0, () -> x.floorAnew(depth, column, hour));
                }
            }
        }
    }

    private static void refused() {
        E.says("Promise 26", "`hour`: 7 to 17");
        E.due(1, () -> new Leadlight().floor(4, 0, 7));
        E.due(1, () -> new Leadlight().floor(4, 3, 17));
        E.says("Promise 27", "`hour`: 7 to 17");
        E.due(1, () -> new Leadlight().floorAnew(4, 0, 7));
        E.due(1, () -> new Leadlight().floorAnew(4, 3, 17));
        for (int hour : new int[] {6, 18, 5, 19, 0, -7, -12, 24, Integer.MIN_VALUE, Integer.MAX_VALUE}) {
            E.says("Promise 26", "Throws `IllegalArgumentException` if hour is out of range");
            E.badArgument(Windows::halves, x -> x.floor(4, 0, hour));
            E.badArgument(Windows::halves, x -> x.floor(-1, Integer.MAX_VALUE, hour));
            E.says("Promise 27", "Throws `IllegalArgumentException` if hour is out of range");
            E.badArgument(Windows::halves, x -> x.floorAnew(4, 0, hour));
            E.badArgument(Windows::halves, x -> x.floorAnew(-1, Integer.MAX_VALUE, hour));
        }
    }
}
