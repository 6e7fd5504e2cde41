/** Promises 9, 28 and 29: bars, what they cross, and panels in the wind. */
public final class BarsTest {
    private static final Check CHECK = new Check("BarsTest");

    private BarsTest() {
    }

    public static void main(String[] args) {
        bar();
        crosses();
        bends();
        CHECK.end();
    }

    private static void bar() {
        Leadlight x = new Leadlight();
        for (int row : new int[] {0, 14, 3, 7, 9}) {
            CHECK.due("laid: bar(" + row + ")", () -> x.bar(row), false);
        }
        CHECK.badState("a sixth: bar(4)", () -> x.bar(4));
        CHECK.due("taken away: bar(14)", () -> x.bar(14), true);
        CHECK.due("room again: bar(4)", () -> x.bar(4), false);
        CHECK.badState("a sixth: bar(14)", () -> x.bar(14));
        for (int row : new int[] {-1, 15, 16, 32, Integer.MIN_VALUE, Integer.MAX_VALUE}) {
            CHECK.noPlace("bar(" + row + ")", () -> x.bar(row));
        }
    }

    private static void crosses() {
        Leadlight x = Windows.quarters();
        CHECK.due("crosses(0)", () -> x.crosses(0), 2);
        CHECK.due("crosses(6)", () -> x.crosses(6), 2);
        CHECK.due("along a lead: crosses(7)", () -> x.crosses(7), 0);
        CHECK.due("crosses(14)", () -> x.crosses(14), 2);
        x.bar(6);
        CHECK.due("a bar is there: crosses(6)", () -> x.crosses(6), 2);
        x.give(128, 0);
        CHECK.due("at one cell: crosses(7)", () -> x.crosses(7), 1);
        x.give(135, 0);
        CHECK.due("the same piece twice: crosses(7)", () -> x.crosses(7), 1);
        for (int row : new int[] {-1, 15, Integer.MIN_VALUE, Integer.MAX_VALUE}) {
            CHECK.noPlace("crosses(" + row + ")", () -> x.crosses(row));
        }
    }

    private static void bends() {
        Leadlight x = new Leadlight();
        CHECK.due("no bars: bends(0, 9)", () -> x.bends(0, 9), 576);
        CHECK.due("no wind: bends(0, 0)", () -> x.bends(0, 0), 0);
        CHECK.noPlace("no bars: bends(1, 0)", () -> x.bends(1, 0));
        CHECK.noPlace("no bars: bends(1, 10)", () -> x.bends(1, 10));
        x.bar(8);
        CHECK.due("9 rows: bends(0, 1)", () -> x.bends(0, 1), 11);
        CHECK.due("7 rows: bends(1, 9)", () -> x.bends(1, 9), 48);
        x.bar(0);
        CHECK.due("1 row: bends(0, 9)", () -> x.bends(0, 9), 0);
        CHECK.due("8 rows: bends(1, 7)", () -> x.bends(1, 7), 56);
        CHECK.due("7 rows: bends(2, 2)", () -> x.bends(2, 2), 10);
        x.bar(14);
        x.bar(4);
        x.bar(5);
        CHECK.due("4 rows: bends(1, 5)", () -> x.bends(1, 5), 5);
        CHECK.due("1 row: bends(2, 9)", () -> x.bends(2, 9), 0);
        CHECK.due("3 rows: bends(3, 5)", () -> x.bends(3, 5), 2);
        CHECK.due("6 rows: bends(4, 3)", () -> x.bends(4, 3), 10);
        CHECK.due("the last row: bends(5, 9)", () -> x.bends(5, 9), 0);
        CHECK.noPlace("five bars: bends(6, 0)", () -> x.bends(6, 0));
        for (int panel : new int[] {-1, Integer.MIN_VALUE, Integer.MAX_VALUE}) {
            CHECK.noPlace("bends(" + panel + ", 10)", () -> x.bends(panel, 10));
        }
        for (int wind : new int[] {-1, 10, Integer.MIN_VALUE, Integer.MAX_VALUE}) {
            CHECK.badArgument("bends(0, " + wind + ")", () -> x.bends(0, wind));
        }
    }
}
