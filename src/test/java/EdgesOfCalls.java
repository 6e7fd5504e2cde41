import java.util.List;
import java.util.function.Function;
import java.util.function.Supplier;

/** What is said of all calls: which exception, that a refused one changes nothing, that asking does not, how many. */
final class EdgesOfCalls {
    private static final Edges E = EdgesTest.EDGES;
    private static final String FIRST = "If several exceptions apply, the one that is named first in the throws clause is "
            + "thrown.";
    private static final String NO_SUCH = "A call that takes a cell or a piece throws IndexOutOfBoundsException if there is "
            + "no such one, for a piece also if it is gone.";
    private static final String NOTHING = "A call that throws an exception changes nothing.";

    private EdgesOfCalls() {
    }

    static void all() {
        placeBeforeArgumentBeforeState();
        placeBeforeState();
        placeBeforeArgument();
        noSuchPiece();
        noSuchCell();
        refusedOnceMore();
        manyRefused();
        askingChangesNothing();
        askingOfAll();
        fiveHundredAndTwelve();
        objectsOfTheirOwn();
    }

    private static void placeBeforeArgumentBeforeState() {
        E.says("Histories", FIRST);
        // All three: no such piece; out of range; and there were 60, or original, or five layers.
        E.noPlace(Windows::sixty, x -> x.divide(60, 15));
        E.noPlace(Windows::sixty, x -> x.divide(60, 0));
        E.badArgument(Windows::sixty, x -> x.divide(0, 15));
        E.badState(Windows::sixty, x -> x.divide(44, 27));
        E.noPlace(Windows::finished, x -> x.divide(2, 31));
        E.badArgument(Windows::finished, x -> x.divide(0, 31));
        E.badState(Windows::finished, x -> x.divide(0, 3));
        E.noPlace(Windows::finished, x -> x.colour(2, 8));
        E.badArgument(Windows::finished, x -> x.colour(0, 8));
        E.badArgument(Windows::finished, x -> x.colour(0, -1));
        E.badState(Windows::finished, x -> x.colour(0, 7));
        E.noPlace(Windows::fullyPainted, x -> x.paint(2, 499));
        E.badArgument(Windows::fullyPainted, x -> x.paint(0, 499));
        E.badArgument(Windows::fullyPainted, x -> x.paint(0, 701));
        E.badState(Windows::fullyPainted, x -> x.paint(0, 700));
        E.noPlace(Windows::finished, x -> x.replace(2, 8));
        E.badArgument(Windows::finished, x -> x.replace(0, 8));
        E.badArgument(Windows::finished, x -> x.replace(0, -1));
        E.badState(Windows::finished, x -> x.replace(0, 7));
    }

    private static void placeBeforeState() {
        E.says("Histories", FIRST);
        // No such cell or piece, and original, or the same.
        E.noPlace(Windows::finished, x -> x.give(256, 0));
        E.noPlace(Windows::finished, x -> x.give(0, 2));
        E.noPlace(Windows::finished, x -> x.give(-1, -1));
        E.badState(Windows::finished, x -> x.give(0, 0));
        E.noPlace(Windows::finished, x -> x.join(2, 2));
        E.noPlace(Windows::finished, x -> x.join(-1, -1));
        E.noPlace(Windows::finished, x -> x.join(0, 2));
        E.noPlace(Windows::oneGone, x -> x.join(1, 1));
        E.badState(Windows::finished, x -> x.join(0, 0));
        E.noPlace(Windows::fullyBarred, x -> x.bar(15));
        E.noPlace(Windows::fullyBarred, x -> x.bar(-1));
        E.badState(Windows::fullyBarred, x -> x.bar(14));
        E.noPlace(Windows::finished, x -> x.mend(2));
        E.badState(Windows::finished, x -> x.mend(1));
    }

    private static void placeBeforeArgument() {
        E.says("Histories", FIRST);
        E.noPlace(Windows::oneGone, x -> x.fire(1, 499));
        E.noPlace(Windows::oneGone, x -> x.fire(4, 751));
        E.badArgument(Windows::oneGone, x -> x.fire(0, 751));
        E.noPlace(Windows::oneGone, x -> x.piece(1, 10));
        E.noPlace(Windows::oneGone, x -> x.piece(-1, -1));
        E.badArgument(Windows::oneGone, x -> x.piece(0, 10));
        E.noPlace(Windows::fullyBarred, x -> x.bends(6, 10));
        E.noPlace(Windows::fullyBarred, x -> x.bends(-1, -1));
        E.badArgument(Windows::fullyBarred, x -> x.bends(5, 10));
    }

    private static void noSuchPiece() {
        E.says("Histories", NO_SUCH);
        // 1 is gone, 4 has never been; a piece that is to come is none yet, nor is one beyond sixty.
        for (int piece : new int[] {-1, 1, 4, 60, 64, Integer.MIN_VALUE, Integer.MAX_VALUE}) {
            E.noPlace(Windows::oneGone, x -> x.divide(piece, 3));
            E.noPlace(Windows::oneGone, x -> x.give(120, piece));
            E.noPlace(Windows::oneGone, x -> x.join(piece, 2));
            E.noPlace(Windows::oneGone, x -> x.join(2, piece));
            E.noPlace(Windows::oneGone, x -> x.colour(piece, 3));
            E.noPlace(Windows::oneGone, x -> x.paint(piece, 600));
            E.noPlace(Windows::oneGone, x -> x.fire(piece, 600));
            E.noPlace(Windows::oneGone, x -> x.mend(piece));
            E.noPlace(Windows::oneGone, x -> x.replace(piece, 3));
            E.noPlace(Windows::oneGone, x -> x.piece(piece, 3));
            E.noPlace(Windows::oneGone, x -> x.bestLine(piece));
            E.noPlace(Windows::oneGone, x -> x.laid(piece));
        }
        E.noPlace(Windows::sixty, x -> x.piece(60, 0));
        E.due(4, () -> Windows.sixty().piece(59, 0));
    }

    private static void noSuchCell() {
        E.says("Histories", NO_SUCH);
        for (int cell : new int[] {-1, 256, -16, -256, 272, Integer.MIN_VALUE, Integer.MAX_VALUE}) {
            E.noPlace(Windows::halves, x -> x.give(cell, 0));
            E.noPlace(Windows::halves, x -> x.crack(cell));
            E.noPlace(Windows::halves, x -> x.pieceOf(cell));
        }
        E.due(0, () -> Windows.halves().crack(0));
        E.due(1, () -> Windows.halves().crack(255));
    }

    /** 0, 2 and 3 are original, 0 is broken and fully painted, 1 is gone, 4 is replaced, 5 new beside it; five bars. */
    private static Leadlight mixed() {
        Leadlight x = Windows.quarters();
        x.join(3, 1);
        x.divide(0, 3);
        x.colour(4, 3);
        for (int heat = 500; heat < 700; heat += 40) {
            x.paint(0, heat);
        }
        x.fire(0, 560);
        x.finish();
        x.crack(0);
        x.crack(64);
        x.replace(4, 2);
        x.divide(4, 19);
        x.heart(3);
        x.sheet(17);
        for (int row : new int[] {1, 4, 7, 10, 13}) {
            x.bar(row);
        }
        return x;
    }

    private static void refusedOnceMore() {
        E.says("Histories", NOTHING);
        Supplier<Leadlight> window = EdgesOfCalls::mixed;
        E.badState(window, x -> x.divide(0, 1));
        E.badState(window, x -> x.divide(4, 3));
        E.badState(window, x -> x.give(128, 4));
        E.badState(window, x -> x.give(65, 0));
        E.badState(window, x -> x.give(64, 5));
        E.badState(window, x -> x.join(4, 4));
        E.badState(window, x -> x.join(4, 3));
        E.badState(window, x -> x.join(0, 4));
        E.badState(window, x -> x.colour(0, 1));
        E.badArgument(window, x -> x.heart(6));
        E.badArgument(window, x -> x.heart(0));
        E.badArgument(window, x -> x.sheet(41));
        E.badArgument(window, x -> x.sheet(3));
        E.badState(window, x -> x.bar(2));
        E.badState(window, x -> x.paint(0, 600));
        E.badArgument(window, x -> x.fire(0, 751));
        E.badState(window, x -> x.mend(4));
        E.badState(window, x -> x.replace(2, 1));
        E.badArgument(window, x -> x.replace(0, 8));
    }

    /** All that is refused in one window, one after the other: nothing has changed after all of it. */
    private static void manyRefused() {
        E.says("Histories", NOTHING);
        int[] far = {Integer.MIN_VALUE, -1, 1, 6, 15, 31, 60, 256, 1000, Integer.MAX_VALUE};
        E.changesNothing(EdgesOfCalls::mixed, x -> {
            for (int piece : far) {
                for (int second : new int[] {Integer.MIN_VALUE, 15, Integer.MAX_VALUE}) {
                    refuse(() -> x.divide(piece, second));
                    refuse(() -> x.give(piece, second));
                    refuse(() -> x.join(piece, second));
                    refuse(() -> x.colour(piece, second));
                    refuse(() -> x.paint(piece, second));
                    refuse(() -> x.fire(piece, second));
                    refuse(() -> x.replace(piece, second));
                }
                refuse(() -> x.mend(piece));
            }
            return null;
        });
        E.changesNothing(Windows::finished, x -> {
            for (int line : Windows.range(-1, 31)) {
                refuse(() -> x.divide(0, line));
                refuse(() -> x.divide(1, line));
            }
            for (int cell : Windows.range(96, 159)) {
                refuse(() -> x.give(cell, cell < 128 ? 1 : 0));
            }
            return null;
        });
        E.changesNothing(Windows::sixty, x -> {
            for (int piece : Windows.range(0, 60)) {
                refuse(() -> x.divide(piece, 17));
                refuse(() -> x.divide(piece, 29));
            }
            return null;
        });
    }

    private static void refuse(Supplier<Object> call) {
        String answer = Check.answer(call);
        E.same(true, answer.startsWith("throws") && !answer.endsWith("out of the library"));
    }

    private static void askingChangesNothing() {
        E.says("Histories", "nothing from here on changes anything.");
        for (Supplier<Leadlight> window : windows()) {
            E.changesNothing(window, x -> x.pieces());
            E.changesNothing(window, x -> x.pieceOf(7));
            E.changesNothing(window, x -> x.piece(0, 4));
            E.changesNothing(window, x -> x.piece(0, 5));
            E.changesNothing(window, x -> x.bestLine(0));
            E.changesNothing(window, x -> x.lead());
            E.changesNothing(window, x -> x.joints());
            E.changesNothing(window, x -> x.weight());
            E.changesNothing(window, x -> x.assembled(0));
            E.changesNothing(window, x -> x.sheets(0));
            E.changesNothing(window, x -> x.laid(0));
            E.changesNothing(window, x -> x.waste(0));
            E.changesNothing(window, x -> x.floor(4, 4, 12));
            E.changesNothing(window, x -> x.floorAnew(4, 4, 12));
            E.changesNothing(window, x -> x.crosses(7));
            E.changesNothing(window, x -> x.bends(0, 9));
            E.changesNothing(window, x -> x.isShut());
            E.changesNothing(window, x -> x.history(0, 0));
        }
    }

    private static List<Supplier<Leadlight>> windows() {
        return List.of(Leadlight::new, EdgesOfCalls::mixed, Windows::island, Windows::sixty);
    }

    /** All that can be asked of all pieces, one after the other. */
    private static void askingOfAll() {
        E.says("Histories", "nothing from here on changes anything.");
        Function<Leadlight, Object> asking = x -> {
            for (int piece : Windows.range(0, 5)) {
                for (int what : Windows.range(-1, 10)) {
                    Check.answer(() -> x.piece(piece, what));
                }
                Check.answer(() -> x.bestLine(piece));
                Check.answer(() -> x.laid(piece));
                Check.answer(() -> x.history(piece, 3));
            }
            for (int colour : Windows.range(-1, 8)) {
                Check.answer(() -> x.sheets(colour));
                Check.answer(() -> x.waste(colour));
                Check.answer(() -> x.assembled(colour));
                Check.answer(() -> x.crosses(colour));
            }
            return null;
        };
        E.changesNothing(EdgesOfCalls::mixed, asking);
        E.changesNothing(Leadlight::new, asking);
        E.changesNothing(Windows::island, asking);
    }

    private static void fiveHundredAndTwelve() {
        E.says("What it is", "An object is used for at most 512 calls after it has been made");
        Leadlight fired = new Leadlight();
        for (int call : Windows.range(1, 511)) {
            fired.fire(0, 500 + call % 251);
        }
        E.due(0, () -> fired.fire(0, 600));
        Leadlight mended = new Leadlight();
        for (int call : Windows.range(1, 255)) {
            mended.crack(call);
            E.due(0, () -> mended.mend(0));
        }
        E.due(0, () -> mended.crack(255));
        E.due(1, () -> mended.piece(0, 3));
        Leadlight divided = Windows.sixty();
        for (int call : Windows.range(60, 511)) {
            E.badState(() -> divided.divide(44 + call % 4, 27));
        }
        E.due(60, divided::pieces);
        Leadlight given = Windows.halves();
        for (int call : Windows.range(1, 255)) {
            E.due(1, () -> given.give(128 + call % 16, 0));
            E.due(0, () -> given.give(128 + call % 16, 1));
        }
        E.due(128, () -> given.piece(0, 0));
        Leadlight barred = new Leadlight();
        for (int call : Windows.range(1, 255)) {
            E.due(false, () -> barred.bar(call % 15));
            E.due(true, () -> barred.bar(call % 15));
        }
        E.due(false, () -> barred.bar(0));
        E.due(52, () -> barred.bends(1, 1));
    }

    private static void objectsOfTheirOwn() {
        E.says("Promise 1", "One piece.");
        // What is done with one object is not seen in another, be it made before or after.
        Leadlight before = new Leadlight();
        Leadlight x = mixed();
        Leadlight after = new Leadlight();
        x.sheets(0);
        x.bestLine(0);
        for (Leadlight other : new Leadlight[] {before, after}) {
            E.due(1, other::pieces);
            E.due(2, () -> other.heart(2));
            E.due(20, () -> other.sheet(20));
            E.due(true, other::isShut);
            E.due(576, () -> other.bends(0, 9));
            E.due(-1, () -> other.history(0, 1));
            E.due(0, () -> other.laid(0));
            E.due(0, () -> other.assembled(0));
        }
        Leadlight one = Windows.quarters();
        Leadlight two = Windows.halves();
        E.due(4, one::pieces);
        E.due(2, two::pieces);
        two.give(112, 1);
        E.due(0, () -> one.pieceOf(112));
        E.due(1, () -> two.pieceOf(112));
    }
}
