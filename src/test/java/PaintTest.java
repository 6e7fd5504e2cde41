/** Promises 10 to 14, 30 and 31: paint, firing, breaking, mending, replacing, and histories. */
public final class PaintTest {
    private static final Check CHECK = new Check("PaintTest");

    private PaintTest() {
    }

    public static void main(String[] args) {
        paint();
        fire();
        fireRefused();
        crackAndMend();
        replace();
        history();
        historyEndsAtTwenty();
        CHECK.end();
    }

    private static void layers(String of, Leadlight x, int all, int fired, int spoiled) {
        CHECK.due(of + ": layers", () -> x.piece(0, 7), all);
        CHECK.due(of + ": fired", () -> x.piece(0, 8), fired);
        CHECK.due(of + ": spoiled", () -> x.piece(0, 9), spoiled);
    }

    private static void paint() {
        Leadlight x = new Leadlight();
        x.finish();
        CHECK.due("paint(0, 500)", () -> x.paint(0, 500), 1);
        CHECK.due("paint(0, 700)", () -> x.paint(0, 700), 2);
        layers("painted", x, 2, 0, 0);
        for (int heat : new int[] {499, 701, 0, -500, Integer.MIN_VALUE, Integer.MAX_VALUE}) {
            CHECK.badArgument("paint(0, " + heat + ")", () -> x.paint(0, heat));
        }
        CHECK.noPlace("paint(1, 500)", () -> x.paint(1, 500));
        CHECK.noPlace("paint(-1, 0)", () -> x.paint(-1, 0));
        x.fire(0, 750);
        x.paint(0, 600);
        x.paint(0, 600);
        CHECK.due("spoiled ones count: paint(0, 600)", () -> x.paint(0, 600), 5);
        CHECK.badState("a sixth: paint(0, 600)", () -> x.paint(0, 600));
        CHECK.badArgument("a sixth: paint(0, 701)", () -> x.paint(0, 701));
        layers("five", x, 5, 0, 2);
    }

    private static void fire() {
        Leadlight x = new Leadlight();
        CHECK.due("nothing on it: fire(0, 500)", () -> x.fire(0, 500), 0);
        CHECK.due("nothing on it: history(0, 1)", () -> x.history(0, 1), 5);
        x.paint(0, 600);
        CHECK.due("not hot enough: fire(0, 599)", () -> x.fire(0, 599), 0);
        layers("not hot enough", x, 1, 0, 0);
        CHECK.due("just as hot: fire(0, 600)", () -> x.fire(0, 600), 0);
        layers("just as hot", x, 1, 1, 0);
        x.paint(0, 601);
        CHECK.due("30 hotter: fire(0, 630)", () -> x.fire(0, 630), 0);
        layers("30 hotter", x, 2, 2, 0);
        CHECK.due("31 hotter: fire(0, 631)", () -> x.fire(0, 631), 1);
        layers("31 hotter", x, 2, 1, 1);
        CHECK.due("the same again: fire(0, 631)", () -> x.fire(0, 631), 0);
        CHECK.due("cooler: fire(0, 600)", () -> x.fire(0, 600), 0);
        layers("spoiled ones stay so", x, 2, 1, 1);
        x.paint(0, 700);
        CHECK.due("unfired, spoiled: fire(0, 750)", () -> x.fire(0, 750), 2);
        layers("all spoiled", x, 3, 0, 3);
    }

    private static void fireRefused() {
        Leadlight x = new Leadlight();
        CHECK.due("fire(0, 750)", () -> x.fire(0, 750), 0);
        for (int heat : new int[] {499, 751, 0, Integer.MIN_VALUE, Integer.MAX_VALUE}) {
            CHECK.badArgument("fire(0, " + heat + ")", () -> x.fire(0, heat));
        }
        CHECK.noPlace("fire(1, 600)", () -> x.fire(1, 600));
        CHECK.noPlace("fire(-1, 0)", () -> x.fire(-1, 0));
        CHECK.due("refused: history(0, 2)", () -> x.history(0, 2), -1);
    }

    private static void crackAndMend() {
        Leadlight x = Windows.quarters();
        CHECK.due("crack(0)", () -> x.crack(0), 0);
        CHECK.due("crack(255)", () -> x.crack(255), 3);
        CHECK.due("crack(15)", () -> x.crack(15), 2);
        CHECK.due("cracked: piece(3, 3)", () -> x.piece(3, 3), 1);
        CHECK.due("cracked: isShut()", x::isShut, false);
        CHECK.due("mend(3)", () -> x.mend(3), 2);
        CHECK.due("mended: piece(3, 3)", () -> x.piece(3, 3), 2);
        CHECK.badState("mended already: mend(3)", () -> x.mend(3));
        CHECK.badState("whole: mend(1)", () -> x.mend(1));
        CHECK.due("mend(0)", () -> x.mend(0), 1);
        CHECK.due("one broken: isShut()", x::isShut, false);
        CHECK.due("mend(2)", () -> x.mend(2), 0);
        CHECK.due("all mended: isShut()", x::isShut, true);
        CHECK.due("again: crack(0)", () -> x.crack(0), 0);
        CHECK.due("cracked again: piece(0, 3)", () -> x.piece(0, 3), 1);
        for (int cell : new int[] {-1, 256, Integer.MIN_VALUE, Integer.MAX_VALUE}) {
            CHECK.noPlace("crack(" + cell + ")", () -> x.crack(cell));
        }
        for (int piece : new int[] {-1, 4, Integer.MIN_VALUE, Integer.MAX_VALUE}) {
            CHECK.noPlace("mend(" + piece + ")", () -> x.mend(piece));
        }
        x.join(1, 0);
        CHECK.noPlace("gone: mend(0)", () -> x.mend(0));
        CHECK.due("the broken one gone: isShut()", x::isShut, true);
    }

    private static void replace() {
        Leadlight x = new Leadlight();
        x.colour(0, 2);
        x.paint(0, 600);
        x.paint(0, 700);
        x.fire(0, 700);
        x.crack(0);
        CHECK.due("replace(0, 7)", () -> x.replace(0, 7), 2);
        CHECK.due("replaced: colour", () -> x.piece(0, 1), 7);
        CHECK.due("replaced: whole", () -> x.piece(0, 3), 0);
        layers("replaced", x, 0, 0, 0);
        CHECK.due("of the same colour: replace(0, 7)", () -> x.replace(0, 7), 7);
        CHECK.due("painted anew: paint(0, 510)", () -> x.paint(0, 510), 1);
        layers("painted anew", x, 1, 0, 0);
        CHECK.due("painted anew: paint(0, 510)", () -> x.paint(0, 510), 2);
        layers("painted anew", x, 2, 0, 0);
        x.finish();
        CHECK.badState("original and whole: replace(0, 1)", () -> x.replace(0, 1));
        x.crack(9);
        x.mend(0);
        CHECK.badState("original and mended: replace(0, 1)", () -> x.replace(0, 1));
        CHECK.badArgument("original and mended: replace(0, 8)", () -> x.replace(0, 8));
        x.crack(9);
        CHECK.badArgument("replace(0, -1)", () -> x.replace(0, -1));
        CHECK.badArgument("replace(0, 8)", () -> x.replace(0, 8));
        CHECK.noPlace("replace(1, 8)", () -> x.replace(1, 8));
        CHECK.noPlace("replace(-1, 0)", () -> x.replace(-1, 0));
        CHECK.due("original and broken: replace(0, 0)", () -> x.replace(0, 0), 7);
        CHECK.due("replaced: original", () -> x.piece(0, 2), 0);
    }

    private static void told(String of, Leadlight x, int piece, int... due) {
        for (int place = 0; place < due.length; place++) {
            int asked = place;
            CHECK.due(of + ": history(" + piece + ", " + place + ")", () -> x.history(piece, asked), due[place]);
        }
        for (int place : new int[] {due.length, 20, Integer.MAX_VALUE}) {
            CHECK.due(of + ": history(" + piece + ", " + place + ")", () -> x.history(piece, place), -1);
        }
    }

    private static void history() {
        Leadlight x = new Leadlight();
        x.colour(0, 1);
        x.colour(0, 1);
        x.paint(0, 600);
        x.fire(0, 600);
        x.fire(0, 600);
        x.divide(0, 7);
        x.give(128, 0);
        x.finish();
        x.finish();
        x.crack(0);
        x.crack(1);
        x.mend(0);
        x.crack(0);
        x.replace(0, 5);
        told("all things", x, 0, 1, 3, 4, 5, 5, 2, 2, 6, 7, 7, 8, 7, 9);
        told("all things", x, 1, 1, 2, 6);
        for (int piece : new int[] {-1, 2, 60, Integer.MIN_VALUE, Integer.MAX_VALUE}) {
            CHECK.noPlace("history(" + piece + ", 0)", () -> x.history(piece, 0));
        }
        CHECK.noPlace("history(0, -1)", () -> x.history(0, -1));
        CHECK.noPlace("history(0, MIN)", () -> x.history(0, Integer.MIN_VALUE));
        Leadlight joined = Windows.quarters();
        joined.join(0, 1);
        joined.finish();
        told("joined", joined, 0, 1, 2, 2, 2, 6);
        told("gone", joined, 1, 1, 2, 2);
        CHECK.noPlace("gone: history(1, -1)", () -> joined.history(1, -1));
    }

    private static void historyEndsAtTwenty() {
        Leadlight x = new Leadlight();
        for (int turn = 0; turn < 18; turn++) {
            x.fire(0, 500);
        }
        x.crack(0);
        x.mend(0);
        CHECK.due("the last that is kept: history(0, 19)", () -> x.history(0, 19), 7);
        CHECK.due("not kept: history(0, 20)", () -> x.history(0, 20), -1);
        CHECK.due("mended all the same: piece(0, 3)", () -> x.piece(0, 3), 2);
        x.replace(0, 4);
        CHECK.due("the last that is kept: history(0, 19)", () -> x.history(0, 19), 7);
        CHECK.due("the first stays: history(0, 0)", () -> x.history(0, 0), 1);
    }
}
