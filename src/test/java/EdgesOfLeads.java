/** The section 'Leads, putting together' and the promises 7 and 19 to 22, sentence by sentence, at their edges. */
final class EdgesOfLeads {
    private static final Edges E = EdgesTest.EDGES;
    private static final String TERMS = "Leads, putting together";
    private static final int[] FAR = {Integer.MIN_VALUE, Integer.MIN_VALUE + 1, -64, 64, 256, Integer.MAX_VALUE};

    private EdgesOfLeads() {
    }

    static void all() {
        sidesWithLead();
        lengthOfAll();
        joints();
        jointsOfAll();
        weight();
        heart();
        belowAndToTheLeft();
        theLowestOne();
        noOrder();
        places();
    }

    private static void sidesWithLead() {
        E.says(TERMS, "A lead runs along each side of a cell between two pieces, and around the opening.");
        E.due(64, () -> new Leadlight().lead());
        for (int line : Windows.range(0, 14)) {
            Leadlight rows = new Leadlight();
            rows.divide(0, line);
            E.due(80, rows::lead);
            Leadlight columns = new Leadlight();
            columns.divide(0, 16 + line);
            E.due(80, columns::lead);
        }
        E.due(64 + 4, () -> Windows.island().lead());
        // Nothing runs between two pieces that have become one, whether they have one colour or not.
        Leadlight x = Windows.halves();
        x.colour(0, 7);
        E.due(80, x::lead);
        x.join(0, 1);
        E.due(64, x::lead);
    }

    private static void lengthOfAll() {
        E.says(TERMS, "Its length is the number of such sides.");
        E.due(96, () -> Windows.quarters().lead());
        E.due(66, () -> cornerOf(0, 0).lead());
        E.due(66, () -> cornerOf(0, 15).lead());
        E.due(66, () -> cornerOf(15, 0).lead());
        E.due(66, () -> cornerOf(15, 15).lead());
        E.due(64 + 15 * 16 + 2 * 16 + 12, () -> Windows.sixty().lead());
        E.says("Promise 19", "Returns the length of all leads.");
        E.due(64, () -> new Leadlight().lead());
        E.due(80, () -> Windows.topRow().lead());
        E.due(82, () -> Windows.give(Windows.topRow(), 0, 17).lead());
    }

    /** A piece of one cell in a corner of the opening, and one of all others. */
    private static Leadlight cornerOf(int row, int column) {
        Leadlight x = new Leadlight();
        int single = Windows.cutOut(x, row, column, row, column);
        int rest = single == 0 ? 1 : 0;
        int other = 3 - single - rest;
        x.join(rest, other);
        return x;
    }

    private static void joints() {
        E.says(TERMS, "A joint is a corner of cells at which 3 or more of such sides come together.");
        // 2 sides come together in the opening's corners, and wherever a lead only turns.
        E.due(0, () -> new Leadlight().joints());
        E.due(0, () -> Windows.island().joints());
        // 3 sides, at each end of a lead.
        for (int line : Windows.range(0, 14)) {
            Leadlight rows = new Leadlight();
            rows.divide(0, line);
            E.due(2, rows::joints);
            Leadlight columns = new Leadlight();
            columns.divide(0, 16 + line);
            E.due(2, columns::joints);
        }
        for (int corner : new int[] {0, 15, 240, 255}) {
            E.due(2, () -> cornerOf(corner / 16, corner % 16).joints());
        }
        // 3 sides inside the opening, then 4.
        Leadlight three = Windows.halves();
        three.divide(0, 23);
        E.due(4, three::joints);
        three.divide(1, 23);
        E.due(5, three::joints);
        // 4 sides, though two of the four cells there, across the corner, are of one piece.
        Leadlight ring = Windows.ring();
        E.due(4, ring::joints);
        ring.give(34, 1);
        E.due(5, ring::joints);
    }

    private static void jointsOfAll() {
        E.says("Promise 20", "Returns how many joints there are.");
        E.due(0, () -> new Leadlight().joints());
        E.due(5, () -> Windows.quarters().joints());
        // Fifteen leads across with two ends each, two leads down that cross them, one that ends at the twelfth.
        E.due(2 * 15 + 2 * (2 + 15) + 1 + 12, () -> Windows.sixty().joints());
        Leadlight x = Windows.corner();
        E.due(4, x::joints);
        x.join(1, 0);
        E.due(2, x::joints);
        x.join(2, 1);
        E.due(0, x::joints);
    }

    private static void weight() {
        E.says(TERMS, "The weight is 3 for each cell, and for each such side the heart, 1 to 5, 2 at first.");
        E.due(3 * 256 + 2 * 64, () -> new Leadlight().weight());
        for (int heart : Windows.range(1, 5)) {
            Leadlight x = Windows.quarters();
            x.heart(heart);
            E.due(3 * 256 + heart * 96, x::weight);
            Leadlight full = Windows.sixty();
            full.heart(heart);
            E.due(3 * 256 + heart * 348, full::weight);
        }
        E.says("Promise 21", "Returns the weight.");
        E.due(768 + 2 * 80, () -> Windows.halves().weight());
        E.due(768 + 2 * 68, () -> Windows.island().weight());
    }

    private static void heart() {
        E.says("Promise 7", "`heart`: 1 to 5");
        Leadlight x = new Leadlight();
        E.due(2, () -> x.heart(5));
        E.due(5, () -> x.heart(1));
        E.due(1, () -> x.heart(1));
        E.says("Promise 7", "Returns what it was.");
        int before = 1;
        for (int heart : Windows.range(1, 5)) {
            int due = before;
            E.due(due, () -> x.heart(heart));
            before = heart;
        }
        E.due(5, () -> x.heart(2));
        E.says("Promise 7", "Throws `IllegalArgumentException` if heart is out of range");
        for (int heart : new int[] {0, 6, -1, -2, Integer.MIN_VALUE, Integer.MAX_VALUE}) {
            E.badArgument(Leadlight::new, w -> w.heart(heart));
            E.badArgument(() -> {
                Leadlight w = Windows.sixty();
                w.heart(5);
                return w;
            }, w -> w.heart(heart));
        }
        E.says("Promise 7", "Sets the heart of leads.");
        Leadlight set = new Leadlight();
        set.heart(1);
        E.due(768 + 64, set::weight);
        set.heart(5);
        E.due(768 + 5 * 64, set::weight);
    }

    private static void order(Leadlight x, int... due) {
        for (int place : Windows.range(0, due.length - 1)) {
            E.due(due[place], () -> x.assembled(place));
        }
        E.due(-1, () -> x.assembled(due.length));
    }

    private static Leadlight divided(Leadlight x, int piece, int line) {
        x.divide(piece, line);
        return x;
    }

    private static void belowAndToTheLeft() {
        E.says(TERMS, "A piece is put in, when all other pieces are that have a cell right below one of its own, or right "
                + "to the left");
        order(Windows.halves(), 1, 0);
        order(Windows.leftColumn(), 0, 1);
        // The last column is not to the left of the first, nor row 0 below row 15.
        order(Windows.rightColumn(), 0, 1);
        order(Windows.topRow(), 1, 0);
        order(Windows.bottomRow(), 1, 0);
        Leadlight right = Windows.rightColumn();
        right.divide(0, 29);
        order(right, 0, 2, 1);
        // Halves of the first column and of the last, of row 0 and of row 15.
        order(divided(Windows.leftColumn(), 0, 7), 2, 0, 1);
        order(divided(Windows.rightColumn(), 1, 7), 0, 2, 1);
        order(divided(Windows.topRow(), 0, 23), 1, 0, 2);
        order(divided(Windows.bottomRow(), 1, 23), 1, 2, 0);
        // Right below is not across a corner: 0 does not wait for 3.
        order(Windows.quarters(), 1, 0, 3, 2);
        Leadlight three = new Leadlight();
        three.divide(0, 3);
        three.divide(1, 7);
        order(three, 2, 1, 0);
        // With column 8 of the upper rows, 0 has a cell right above one of 3, and waits for it.
        Leadlight x = Windows.quarters();
        Windows.give(x, 0, 8, 24, 40, 56, 72, 88, 104, 120);
        order(x, 1, 3, 0, 2);
        // 0 above, 1 lower left, 2 lower right: one cell of 0 right to the left of one of 2, and 2 waits for 0 as well.
        Leadlight y = Windows.halves();
        y.divide(1, 23);
        order(y, 1, 2, 0);
        y.give(135, 0);
        E.due(-1, () -> y.assembled(0));
    }

    private static void theLowestOne() {
        E.says(TERMS, "each time the lowest one that can be.");
        // From the lower left square on, both above it and to the right of it can be put in: the lower number is first.
        order(Windows.quarters(), 1, 0, 3, 2);
        Leadlight x = new Leadlight();
        x.divide(0, 23);
        x.divide(0, 7);
        x.divide(1, 7);
        // 0 upper left, 2 lower left, 1 upper right, 3 lower right.
        order(x, 2, 0, 3, 1);
        Leadlight y = Windows.quarters();
        y.divide(0, 3);
        y.join(4, 0);
        // Upper left is 4 now, so the lower right one, 3, is before it.
        order(y, 1, 3, 4, 2);
        // Column by column, each from below.
        int[] due = new int[60];
        for (int place : Windows.range(0, 59)) {
            due[place] = place < 48 ? place / 16 * 16 + 15 - place % 16 : 107 - place;
        }
        order(Windows.sixty(), due);
    }

    /** 0 and 3 wait for each other: 0 has a cell above one of 3, and one to the left of one of 3. */
    private static Leadlight hooked() {
        Leadlight x = Windows.quarters();
        return Windows.give(x, 0, 135, 136);
    }

    private static void noOrder() {
        E.says(TERMS, "If none can be, there is no order.");
        for (int place : new int[] {0, 1, 2, 3}) {
            E.due(-1, () -> hooked().assembled(place));
        }
        // 1 could be put in, and yet there is none; there is one again once nothing waits for each other.
        Leadlight x = hooked();
        E.due(-1, () -> x.assembled(0));
        x.give(136, 3);
        order(x, 1, 0, 3, 2);
        for (int place : new int[] {0, 1, 2}) {
            E.due(-1, () -> Windows.island().assembled(place));
        }
        E.says("Promise 22", "Returns the piece; -1 if there is no order, or there are not so many.");
        E.due(-1, () -> Windows.island().assembled(0));
        E.due(0, () -> new Leadlight().assembled(0));
        E.due(-1, () -> new Leadlight().assembled(1));
        E.due(58, () -> Windows.sixty().assembled(49));
        E.due(48, () -> Windows.sixty().assembled(59));
        E.due(-1, () -> Windows.sixty().assembled(60));
        E.due(2, () -> Windows.oneGone().assembled(2));
        E.due(-1, () -> Windows.oneGone().assembled(3));
    }

    private static void places() {
        E.says("Promise 22", "`place`: 0 for the first one");
        E.due(1, () -> Windows.halves().assembled(0));
        E.due(0, () -> Windows.halves().assembled(1));
        E.due(-1, () -> Windows.halves().assembled(-1));
        for (int place : FAR) {
            E.due(-1, () -> new Leadlight().assembled(place));
            E.due(-1, () -> Windows.sixty().assembled(place));
        }
        E.says("Promise 22", "Returns the piece that is put in at a place of the order.");
        order(Windows.oneGone(), 0, 3, 2);
    }
}
