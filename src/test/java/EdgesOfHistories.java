import java.util.function.Consumer;

/** The section 'Histories', what it says of replacing and of originals, and promise 31, at their edges. */
final class EdgesOfHistories {
    private static final Edges E = EdgesTest.EDGES;
    private static final String KEPT = "A piece's history is kept, at most 20 things, as they happen: 1 it came about, 2 it "
            + "lost cells or got some (also one that is gone by that), 3 its colour became another one, but by replacing "
            + "it, 4 painted, 5 fired, each time, 6 original from then on, 7 broken, each time, 8 mended, 9 replaced.";

    private EdgesOfHistories() {
    }

    static void all() {
        cameAbout();
        lostOrGot();
        colourBecameAnother();
        paintedAndFired();
        originalFromThenOn();
        brokenAndMended();
        replaced();
        asTheyHappen();
        twentyThings();
        twentyOfEachKind();
        refusedIsNotKept();
        replaceMakes();
        originals();
        history();
        historyRefused();
    }

    /** These are all things of the piece's history. */
    private static void told(Leadlight x, int piece, int... due) {
        for (int place : Windows.range(0, due.length - 1)) {
            E.due(due[place], () -> x.history(piece, place));
        }
        E.due(-1, () -> x.history(piece, due.length));
    }

    private static void cameAbout() {
        E.says("Histories", KEPT);
        told(new Leadlight(), 0, 1);
        told(Windows.halves(), 1, 1);
        told(Windows.sixty(), 59, 1);
        E.noPlace(Windows::halves, x -> x.history(2, 0));
        // What its first piece met before is not of the new one's history.
        Leadlight x = Windows.fullyPainted();
        x.crack(0);
        x.divide(0, 3);
        told(x, 2, 1);
    }

    private static void lostOrGot() {
        E.says("Histories", KEPT);
        told(Windows.halves(), 0, 1, 2);
        Leadlight x = Windows.quarters();
        told(x, 0, 1, 2, 2);
        told(x, 1, 1, 2);
        told(x, 2, 1);
        x.give(8, 0);
        told(x, 0, 1, 2, 2, 2);
        told(x, 2, 1, 2);
        told(x, 3, 1);
        x.join(0, 1);
        told(x, 0, 1, 2, 2, 2, 2);
        told(x, 1, 1, 2, 2);
        // One that is gone has nothing more to tell, whatever comes.
        x.finish();
        x.crack(128);
        told(x, 1, 1, 2, 2);
        told(x, 0, 1, 2, 2, 2, 2, 6, 7);
        // Both tell once, though many cells went.
        Leadlight one = Windows.halves();
        one.join(1, 0);
        told(one, 0, 1, 2, 2);
        told(one, 1, 1, 2);
    }

    private static void colourBecameAnother() {
        E.says("Histories", KEPT);
        Leadlight x = new Leadlight();
        x.colour(0, 0);
        told(x, 0, 1);
        x.colour(0, 7);
        told(x, 0, 1, 3);
        x.colour(0, 7);
        told(x, 0, 1, 3);
        x.colour(0, 0);
        told(x, 0, 1, 3, 3);
        x.replace(0, 5);
        told(x, 0, 1, 3, 3, 9);
        x.colour(0, 5);
        told(x, 0, 1, 3, 3, 9);
        x.replace(0, 5);
        told(x, 0, 1, 3, 3, 9, 9);
        // A colour that it has from another one by dividing or by joining is none that it became.
        Leadlight joined = Windows.halves();
        joined.colour(1, 4);
        joined.join(0, 1);
        told(joined, 0, 1, 2, 2);
        joined.colour(0, 4);
        joined.divide(0, 7);
        told(joined, 2, 1);
    }

    private static void paintedAndFired() {
        E.says("Histories", KEPT);
        Leadlight x = new Leadlight();
        x.paint(0, 600);
        x.paint(0, 600);
        told(x, 0, 1, 4, 4);
        x.fire(0, 500);
        told(x, 0, 1, 4, 4, 5);
        x.fire(0, 600);
        x.fire(0, 600);
        x.fire(0, 750);
        x.fire(0, 750);
        told(x, 0, 1, 4, 4, 5, 5, 5, 5, 5);
        Leadlight bare = Windows.halves();
        bare.fire(1, 500);
        told(bare, 1, 1, 5);
        told(bare, 0, 1, 2);
    }

    private static void originalFromThenOn() {
        E.says("Histories", KEPT);
        Leadlight x = Windows.halves();
        x.finish();
        told(x, 0, 1, 2, 6);
        told(x, 1, 1, 6);
        x.finish();
        told(x, 0, 1, 2, 6);
        x.crack(0);
        x.replace(0, 0);
        x.finish();
        told(x, 0, 1, 2, 6, 7, 9, 6);
        told(x, 1, 1, 6);
    }

    private static void brokenAndMended() {
        E.says("Histories", KEPT);
        Leadlight x = Windows.halves();
        x.crack(255);
        x.crack(128);
        told(x, 1, 1, 7, 7);
        told(x, 0, 1, 2);
        x.mend(1);
        told(x, 1, 1, 7, 7, 8);
        x.crack(255);
        x.mend(1);
        told(x, 1, 1, 7, 7, 8, 7, 8);
    }

    private static void replaced() {
        E.says("Histories", KEPT);
        Leadlight x = Windows.halves();
        x.replace(1, 0);
        told(x, 1, 1, 9);
        x.replace(1, 6);
        told(x, 1, 1, 9, 9);
        told(x, 0, 1, 2);
    }

    private static void asTheyHappen() {
        E.says("Histories", KEPT);
        Leadlight x = new Leadlight();
        x.replace(0, 1);
        x.crack(0);
        x.mend(0);
        x.colour(0, 2);
        x.fire(0, 500);
        x.paint(0, 500);
        x.divide(0, 7);
        x.finish();
        told(x, 0, 1, 9, 7, 8, 3, 5, 4, 2, 6);
        told(x, 1, 1, 6);
    }

    private static Leadlight fired(int times) {
        Leadlight x = new Leadlight();
        for (int turn = 0; turn < times; turn++) {
            x.fire(0, 500);
        }
        return x;
    }

    private static void twentyThings() {
        E.says("Histories", KEPT);
        Leadlight nineteen = fired(18);
        E.due(5, () -> nineteen.history(0, 18));
        E.due(-1, () -> nineteen.history(0, 19));
        nineteen.crack(0);
        E.due(7, () -> nineteen.history(0, 19));
        E.due(-1, () -> nineteen.history(0, 20));
        nineteen.mend(0);
        nineteen.replace(0, 3);
        E.due(7, () -> nineteen.history(0, 19));
        E.due(-1, () -> nineteen.history(0, 20));
        E.due(1, () -> nineteen.history(0, 0));
        E.due(5, () -> nineteen.history(0, 1));
        // Twenty for each piece.
        nineteen.divide(0, 7);
        told(nineteen, 1, 1);
        nineteen.fire(1, 500);
        told(nineteen, 1, 1, 5);
        // As many as there may be calls.
        Leadlight many = fired(500);
        E.due(5, () -> many.history(0, 19));
        E.due(-1, () -> many.history(0, 20));
        E.due(-1, () -> many.history(0, 500));
    }

    /** Once it is full a history keeps nothing of any kind, but what happens, happens. */
    private static void twentyOfEachKind() {
        E.says("Histories", KEPT);
        full(new Leadlight(), x -> x.divide(0, 7), 0, 128);
        full(Windows.halves(), x -> x.give(127, 1), 0, 127);
        full(Windows.halves(), x -> x.give(128, 0), 0, 129);
        full(Windows.halves(), x -> x.join(0, 1), 0, 256);
        full(Windows.halves(), x -> x.colour(0, 7), 1, 7);
        full(Windows.halves(), x -> x.paint(0, 600), 7, 1);
        full(Windows.halves(), x -> x.finish(), 2, 1);
        full(Windows.halves(), x -> x.crack(0), 3, 1);
        full(Windows.halves(), x -> {
            x.crack(0);
            x.mend(0);
        }, 3, 2);
        full(Windows.halves(), x -> x.replace(0, 4), 1, 4);
        // One that is gone with its twenty things.
        Leadlight gone = Windows.halves();
        for (int turn : Windows.range(1, 25)) {
            gone.fire(1, 500 + turn);
        }
        gone.join(0, 1);
        E.due(5, () -> gone.history(1, 19));
        E.due(-1, () -> gone.history(1, 20));
    }

    private static void full(Leadlight x, Consumer<Leadlight> call, int what, int due) {
        for (int turn : Windows.range(1, 19)) {
            x.fire(0, 500 + turn);
        }
        call.accept(x);
        E.due(due, () -> x.piece(0, what));
        E.due(5, () -> x.history(0, 19));
        E.due(-1, () -> x.history(0, 20));
    }

    private static void refusedIsNotKept() {
        E.says("Histories", "A call that throws an exception changes nothing.");
        Leadlight x = Windows.finished();
        E.badState(() -> x.divide(0, 3));
        E.badState(() -> x.give(112, 1));
        E.badState(() -> x.join(0, 1));
        E.badState(() -> x.colour(0, 3));
        E.badArgument(() -> x.paint(0, 499));
        E.badArgument(() -> x.fire(0, 751));
        E.noPlace(() -> x.crack(256));
        E.badState(() -> x.mend(0));
        E.badState(() -> x.replace(0, 3));
        told(x, 0, 1, 2, 6);
        told(x, 1, 1, 6);
    }

    private static void replaceMakes() {
        E.says("Histories", "To replace a piece makes it whole, not original, of a colour, without layers.");
        Leadlight x = Windows.fullyPainted();
        x.finish();
        x.crack(0);
        x.replace(0, 7);
        int[] due = {128, 7, 0, 0, 0, 8, 16, 0, 0, 0};
        for (int what : Windows.range(0, 9)) {
            E.due(due[what], () -> x.piece(0, what));
        }
        // From then on it is divided, joined, given and coloured as any other.
        E.due(7, () -> x.colour(0, 1));
        E.due(2, () -> x.divide(0, 3));
        E.due(2, () -> x.give(64, 0));
        E.due(128, () -> x.join(0, 2));
    }

    private static void originals() {
        E.says("Histories", "An original piece is neither divided nor joined, no cell of it is given away or got, and it is "
                + "replaced only if it is broken.");
        // 0 is not original, 1 is.
        E.badState(Windows::halfFinished, x -> x.divide(1, 8));
        E.badState(Windows::halfFinished, x -> x.join(0, 1));
        E.badState(Windows::halfFinished, x -> x.join(1, 0));
        E.badState(Windows::halfFinished, x -> x.give(128, 0));
        E.badState(Windows::halfFinished, x -> x.give(112, 1));
        E.badState(Windows::halfFinished, x -> x.replace(1, 0));
        // Broken, it is still original, and only replaced.
        E.badState(EdgesOfHistories::brokenOriginal, x -> x.divide(1, 8));
        E.badState(EdgesOfHistories::brokenOriginal, x -> x.join(0, 1));
        E.badState(EdgesOfHistories::brokenOriginal, x -> x.give(128, 0));
        E.badState(EdgesOfHistories::brokenOriginal, x -> x.colour(1, 1));
        E.due(0, () -> brokenOriginal().replace(1, 0));
        E.badState(() -> {
            Leadlight x = brokenOriginal();
            x.mend(1);
            return x;
        }, x -> x.replace(1, 0));
        // It is painted, fired, broken and mended as any other.
        Leadlight x = Windows.finished();
        E.due(1, () -> x.paint(0, 600));
        E.due(0, () -> x.fire(0, 600));
        E.due(0, () -> x.crack(0));
        E.due(0, () -> x.mend(0));
        E.due(17, () -> x.bestLine(0));
    }

    private static Leadlight brokenOriginal() {
        Leadlight x = Windows.halfFinished();
        x.crack(255);
        return x;
    }

    private static void history() {
        E.says("Promise 31", "Returns a thing of a piece's history, also of one that is gone.");
        told(Windows.oneGone(), 0, 1, 2, 2, 2);
        told(Windows.oneGone(), 1, 1, 2, 2);
        told(Windows.oneGone(), 3, 1);
        E.says("Promise 31", "`place`: 0 for the first one");
        E.due(1, () -> Windows.oneGone().history(1, 0));
        E.due(2, () -> Windows.oneGone().history(1, 1));
        E.says("Promise 31", "Returns 1 to 9; -1 if there are not so many.");
        for (int place : new int[] {1, 2, 19, 20, 21, 512, Integer.MAX_VALUE - 1, Integer.MAX_VALUE}) {
            E.due(-1, () -> new Leadlight().history(0, place));
        }
        for (int place : new int[] {20, 21, 63, Integer.MAX_VALUE}) {
            E.due(-1, () -> fired(30).history(0, place));
            E.due(5, () -> fired(30).history(0, 19));
        }
    }

    private static void historyRefused() {
        E.says("Promise 31", "Throws `IndexOutOfBoundsException` if there never was such a piece, or place is below 0");
        for (int piece : new int[] {-1, 4, 5, 59, 60, 61, Integer.MIN_VALUE, Integer.MAX_VALUE}) {
            E.noPlace(Windows::oneGone, x -> x.history(piece, 0));
            E.noPlace(Windows::oneGone, x -> x.history(piece, -1));
        }
        for (int place : new int[] {-1, -2, -20, Integer.MIN_VALUE}) {
            E.noPlace(Windows::oneGone, x -> x.history(0, place));
            E.noPlace(Windows::oneGone, x -> x.history(1, place));
            E.noPlace(() -> fired(30), x -> x.history(0, place));
        }
        E.due(1, () -> Windows.sixty().history(59, 0));
        E.noPlace(Windows::sixty, x -> x.history(60, 0));
        E.noPlace(Windows::fiftyNine, x -> x.history(59, 0));
    }
}
