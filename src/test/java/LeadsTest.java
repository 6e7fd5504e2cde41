/** Promises 7 and 19 to 22: leads with their length, joints and weight, and the order of putting together. */
public final class LeadsTest {
    private static final Check CHECK = new Check("LeadsTest");

    private LeadsTest() {
    }

    public static void main(String[] args) {
        heart();
        leadAndJoints();
        weight();
        assembled();
        CHECK.end();
    }

    private static void heart() {
        Leadlight x = new Leadlight();
        CHECK.due("heart(1)", () -> x.heart(1), 2);
        CHECK.due("heart(5)", () -> x.heart(5), 1);
        for (int heart : new int[] {0, 6, -1, Integer.MIN_VALUE, Integer.MAX_VALUE}) {
            CHECK.badArgument("heart(" + heart + ")", () -> x.heart(heart));
        }
        CHECK.due("heart(3)", () -> x.heart(3), 5);
    }

    private static void leadAndJoints() {
        counts("new", new Leadlight(), 64, 0);
        Leadlight halves = new Leadlight();
        halves.divide(0, 7);
        counts("halves", halves, 80, 2);
        Leadlight quarters = Windows.quarters();
        counts("quarters", quarters, 96, 5);
        quarters.give(135, 0);
        counts("quarters, a cell given", quarters, 97, 6);
        quarters.join(0, 3);
        counts("quarters, two joined", quarters, 96, 4);
        counts("island", Windows.island(), 68, 0);
        counts("sixty", Windows.sixty(), 348, 77);
    }

    private static void counts(String of, Leadlight x, int lead, int joints) {
        CHECK.due(of + ": lead()", x::lead, lead);
        CHECK.due(of + ": joints()", x::joints, joints);
    }

    private static void weight() {
        Leadlight x = new Leadlight();
        CHECK.due("new: weight()", x::weight, 768 + 2 * 64);
        x.divide(0, 7);
        CHECK.due("halves: weight()", x::weight, 768 + 2 * 80);
        x.heart(5);
        CHECK.due("thick: weight()", x::weight, 768 + 5 * 80);
        x.heart(1);
        CHECK.due("thin: weight()", x::weight, 768 + 80);
    }

    private static void order(String of, Leadlight x, int... due) {
        for (int place = 0; place < due.length; place++) {
            int asked = place;
            CHECK.due(of + ": assembled(" + place + ")", () -> x.assembled(asked), due[place]);
        }
        for (int place : new int[] {due.length, -1, 60, 64, Integer.MIN_VALUE, Integer.MAX_VALUE}) {
            CHECK.due(of + ": assembled(" + place + ")", () -> x.assembled(place), -1);
        }
    }

    private static void assembled() {
        order("new", new Leadlight(), 0);
        order("quarters", Windows.quarters(), 1, 0, 3, 2);
        Leadlight columns = new Leadlight();
        columns.divide(0, 23);
        order("left before right", columns, 0, 1);
        Leadlight rows = new Leadlight();
        rows.divide(0, 7);
        order("below before above", rows, 1, 0);
        order("island", Windows.island());
        Leadlight gone = Windows.quarters();
        gone.join(3, 2);
        order("one gone", gone, 1, 0, 3);
        // The upper left one rests on the lower right one too, then.
        Leadlight wide = Windows.quarters();
        wide.give(8, 0);
        wide.give(24, 0);
        for (int cell = 40; cell < 136; cell += 16) {
            wide.give(cell, 0);
        }
        order("wide above", wide, 1, 3, 0, 2);
        // 0 reaches down between 1 and 3, so 3 waits for it; once it also has a cell above 3, both wait for each other.
        Leadlight hook = Windows.quarters();
        hook.give(135, 0);
        order("to the left of the one below", hook, 1, 0, 3, 2);
        hook.give(136, 0);
        order("under it as well", hook);
        hook.give(136, 3);
        order("given back", hook, 1, 0, 3, 2);
        Leadlight corner = new Leadlight();
        corner.divide(0, 0);
        corner.divide(0, 16);
        order("one cell in the upper left", corner, 1, 0, 2);
        Leadlight border = new Leadlight();
        border.divide(0, 16);
        border.divide(0, 7);
        border.join(2, 0);
        order("one column on the left", border, 2, 1);
        sixty();
    }

    /** Column by column from the left, each from below. */
    private static void sixty() {
        int[] due = new int[60];
        int place = 0;
        for (int first : new int[] {0, 16, 32}) {
            for (int row = 15; row >= 0; row--) {
                due[place++] = first + row;
            }
        }
        for (int row = 11; row >= 0; row--) {
            due[place++] = 48 + row;
        }
        order("sixty", Windows.sixty(), due);
    }
}
