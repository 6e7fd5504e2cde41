/** Promises 26 and 27: the picture on the floor, found both ways. */
public final class LightTest {
    private static final Check CHECK = new Check("LightTest");

    private LightTest() {
    }

    public static void main(String[] args) {
        noon();
        morningAndEvening();
        coloursTogether();
        everyCellIsSeen();
        refused();
        CHECK.end();
    }

    private static void shows(String of, Leadlight x, int depth, int column, int hour, int due) {
        String place = "(" + depth + ", " + column + ", " + hour + ")";
        CHECK.due(of + ": floor" + place, () -> x.floor(depth, column, hour), due);
        CHECK.due(of + ": floorAnew" + place, () -> x.floorAnew(depth, column, hour), due);
    }

    private static void noon() {
        Leadlight x = new Leadlight();
        shows("lowest row", x, 0, 0, 12, 1);
        shows("topmost row", x, 10, 15, 12, 1);
        shows("beyond", x, 11, 0, 12, 0);
        shows("left of it", x, 5, -1, 12, 0);
        shows("right of it", x, 5, 16, 12, 0);
        shows("before it", x, -1, 0, 12, 0);
    }

    private static void morningAndEvening() {
        Leadlight x = new Leadlight();
        // At 7 the sun stands at 1: the lowest row comes to 4, and -5 * 4 / 8 goes down to -3.
        shows("7, first", x, 4, -3, 7, 1);
        shows("7, last", x, 4, 12, 7, 1);
        shows("7, left of it", x, 4, -4, 7, 0);
        shows("7, right of it", x, 4, 13, 7, 0);
        shows("7, between rows", x, 5, 0, 7, 0);
        shows("7, topmost", x, 64, -40, 7, 1);
        shows("7, topmost, left of it", x, 64, -41, 7, 0);
        shows("7, beyond", x, 65, -40, 7, 0);
        shows("17, first", x, 4, 2, 17, 1);
        shows("17, last", x, 4, 17, 17, 1);
        shows("17, left of it", x, 4, 1, 17, 0);
        shows("17, topmost", x, 64, 55, 17, 1);
        shows("17, topmost, right of it", x, 64, 56, 17, 0);
        // At 11 the sun stands at 5: the topmost row comes to 12, and -12 / 8 goes down to -2.
        shows("11, first", x, 12, -2, 11, 1);
        shows("11, last", x, 12, 13, 11, 1);
        shows("11, right of it", x, 12, 14, 11, 0);
    }

    private static void coloursTogether() {
        Leadlight x = new Leadlight();
        x.divide(0, 9);
        x.colour(0, 2);
        x.colour(1, 7);
        // Heights 7 and 6, in rows 9 and 10, both come to 4.
        shows("two rows", x, 4, 3, 12, 4 | 128);
        shows("the row above", x, 5, 3, 12, 4);
        shows("the row below", x, 3, 3, 12, 128);
        x.crack(0);
        x.finish();
        shows("broken and original", x, 4, 3, 12, 4 | 128);
        x.crack(255);
        x.replace(1, 0);
        shows("replaced", x, 4, 3, 12, 4 | 1);
        Leadlight columns = new Leadlight();
        columns.divide(0, 23);
        columns.colour(1, 1);
        shows("left half", columns, 4, 7, 12, 1);
        shows("right half", columns, 4, 8, 12, 2);
    }

    /** In the columns that are lit there must be as many lit places as rows have depths of their own. */
    private static void everyCellIsSeen() {
        for (int hour = 7; hour <= 17; hour++) {
            Leadlight x = new Leadlight();
            boolean[] reached = new boolean[65];
            for (int height = 1; height <= 16; height++) {
                reached[4 * height / (6 - Math.abs(hour - 12))] = true;
            }
            for (int depth = 0; depth <= 64; depth++) {
                int column = 3 + Math.floorDiv((hour - 12) * depth, 8);
                shows("column 3", x, depth, column, hour, reached[depth] ? 1 : 0);
            }
        }
    }

    private static void refused() {
        Leadlight x = new Leadlight();
        for (int hour : new int[] {6, 18, 0, -12, Integer.MIN_VALUE, Integer.MAX_VALUE}) {
            CHECK.badArgument("floor(0, 0, " + hour + ")", () -> x.floor(0, 0, hour));
            CHECK.badArgument("floorAnew(0, 0, " + hour + ")", () -> x.floorAnew(0, 0, hour));
            CHECK.badArgument("floorAnew(-1, 0, " + hour + ")", () -> x.floorAnew(-1, 0, hour));
        }
        int[] far = {Integer.MIN_VALUE, Integer.MAX_VALUE, 1 << 30, -(1 << 30)};
        for (int depth : far) {
            for (int column : far) {
                shows("far away", x, depth, column, 7, 0);
                shows("far away", x, depth, column, 17, 0);
            }
        }
        // Where products of so deep a place would come round to the lowest row, were they ints.
        shows("come round", x, (1 << 30) + 1, (1 << 28) - 1, 10, 0);
        shows("come round", x, (1 << 30) + 1, -(1 << 28), 14, 0);
        for (int column : far) {
            shows("far aside", x, 64, column, 7, 0);
            shows("far aside", x, 64, column, 17, 0);
        }
    }
}
