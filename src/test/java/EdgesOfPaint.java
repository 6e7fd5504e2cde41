/** The section 'Paint' and the promises 10 to 14 and 30, sentence by sentence, at their edges. */
final class EdgesOfPaint {
    private static final Edges E = EdgesTest.EDGES;
    private static final String AS_TOLD = "Throws `IndexOutOfBoundsException` as told";
    private static final int[] NO_PIECES = {-1, 1, 4, 59, 60, Integer.MIN_VALUE, Integer.MAX_VALUE};

    private EdgesOfPaint() {
    }

    static void all() {
        atMostFive();
        heats();
        moreThanThirtyBelow();
        firedOrNot();
        atMostThatIsFired();
        spoiledStaySo();
        paint();
        paintRefused();
        fire();
        fireRefused();
        crack();
        mend();
        mendRefused();
        replace();
        replaceRefused();
        isShut();
    }

    /** One piece with layers of these heats, none of them fired. */
    private static Leadlight painted(int... heats) {
        Leadlight x = new Leadlight();
        for (int heat : heats) {
            x.paint(0, heat);
        }
        return x;
    }

    private static void layers(Leadlight x, int all, int fired, int spoiled) {
        E.due(all, () -> x.piece(0, 7));
        E.due(fired, () -> x.piece(0, 8));
        E.due(spoiled, () -> x.piece(0, 9));
    }

    private static void atMostFive() {
        E.says("Paint", "A layer of paint, at most 5 on a piece, has a heat, 500 to 700.");
        Leadlight x = new Leadlight();
        for (int layers : Windows.range(1, 5)) {
            E.due(layers, () -> x.paint(0, 600));
        }
        E.badState(() -> painted(600, 600, 600, 600, 600), w -> w.paint(0, 600));
        // Five on each piece; fired and spoiled ones count as well.
        E.badState(Windows::fullyPainted, w -> w.paint(0, 600));
        E.due(1, () -> Windows.fullyPainted().paint(1, 600));
        Leadlight spoiled = painted(500, 500, 500, 500);
        spoiled.fire(0, 750);
        E.due(5, () -> spoiled.paint(0, 500));
        E.badState(() -> spoiled.paint(0, 500));
        // Replaced, it has room for five again.
        spoiled.replace(0, 0);
        E.due(1, () -> spoiled.paint(0, 500));
    }

    private static void heats() {
        E.says("Paint", "A layer of paint, at most 5 on a piece, has a heat, 500 to 700.");
        E.due(1, () -> painted().paint(0, 500));
        E.due(1, () -> painted().paint(0, 700));
        E.badArgument(Leadlight::new, x -> x.paint(0, 499));
        E.badArgument(Leadlight::new, x -> x.paint(0, 701));
    }

    private static void moreThanThirtyBelow() {
        E.says("Paint", "each layer, fired or not, whose heat is more than 30 below that, is spoiled");
        for (int heat : new int[] {500, 501, 600, 699, 700}) {
            E.due(0, () -> painted(heat).fire(0, heat + 29));
            E.due(0, () -> painted(heat).fire(0, heat + 30));
            E.due(1, () -> painted(heat).fire(0, heat + 31));
            E.due(1, () -> painted(heat).fire(0, heat + 32));
            E.due(1, () -> painted(heat).fire(0, 750));
        }
        E.due(2, () -> painted(600, 630, 599, 601).fire(0, 631));
        E.due(5, () -> painted(500, 500, 500, 500, 500).fire(0, 531));
        E.due(0, () -> painted(500, 500, 500, 500, 500).fire(0, 530));
    }

    private static void firedOrNot() {
        E.says("Paint", "each layer, fired or not, whose heat is more than 30 below that, is spoiled");
        Leadlight x = painted(600);
        x.fire(0, 600);
        layers(x, 1, 1, 0);
        E.due(0, () -> x.fire(0, 630));
        layers(x, 1, 1, 0);
        E.due(1, () -> x.fire(0, 631));
        layers(x, 1, 0, 1);
        Leadlight unfired = painted(600);
        E.due(1, () -> unfired.fire(0, 631));
        layers(unfired, 1, 0, 1);
    }

    private static void atMostThatIsFired() {
        E.says("Paint", "each other one whose heat is at most that is fired.");
        for (int heat : new int[] {501, 600, 699, 700}) {
            Leadlight x = painted(heat);
            x.fire(0, heat - 1);
            layers(x, 1, 0, 0);
            x.fire(0, heat);
            layers(x, 1, 1, 0);
            // One that is fired stays so, if the next fire is cooler.
            x.fire(0, 500);
            layers(x, 1, 1, 0);
            Leadlight hotter = painted(heat);
            hotter.fire(0, heat + 30);
            layers(hotter, 1, 1, 0);
        }
        Leadlight least = painted(500);
        least.fire(0, 500);
        layers(least, 1, 1, 0);
        Leadlight all = painted(569, 570, 600, 601, 700);
        E.due(1, () -> all.fire(0, 600));
        layers(all, 5, 2, 1);
    }

    private static void spoiledStaySo() {
        E.says("Paint", "Spoiled ones stay so.");
        Leadlight x = painted(600);
        E.due(1, () -> x.fire(0, 631));
        E.due(0, () -> x.fire(0, 631));
        E.due(0, () -> x.fire(0, 600));
        layers(x, 1, 0, 1);
        E.due(0, () -> x.fire(0, 630));
        layers(x, 1, 0, 1);
        E.due(0, () -> x.fire(0, 500));
        E.due(0, () -> x.fire(0, 750));
        layers(x, 1, 0, 1);
        // Neither breaking nor mending nor a colour makes them good.
        x.crack(0);
        x.mend(0);
        x.colour(0, 1);
        layers(x, 1, 0, 1);
    }

    private static void paint() {
        E.says("Promise 10", "Paints a layer.");
        Leadlight x = new Leadlight();
        x.paint(0, 510);
        layers(x, 1, 0, 0);
        E.due(0, () -> x.fire(0, 540));
        E.due(1, () -> x.fire(0, 541));
        // Original, broken and mended ones are painted as any other.
        E.due(1, () -> Windows.finished().paint(0, 600));
        E.due(1, () -> {
            Leadlight w = Windows.finished();
            w.crack(0);
            return w.paint(0, 600);
        });
        E.says("Promise 10", "`heat`: 500 to 700");
        for (int heat : new int[] {500, 501, 699, 700}) {
            E.due(1, () -> new Leadlight().paint(0, heat));
            Leadlight one = painted(heat);
            E.due(0, () -> one.fire(0, heat + 30));
            E.due(1, () -> one.fire(0, heat + 31));
        }
        E.says("Promise 10", "Returns how many layers there are then.");
        Leadlight five = new Leadlight();
        for (int layers : Windows.range(1, 5)) {
            E.due(layers, () -> five.paint(0, 500));
            E.due(layers, () -> five.piece(0, 7));
        }
    }

    private static void paintRefused() {
        E.says("Promise 10", AS_TOLD);
        for (int piece : NO_PIECES) {
            E.noPlace(Windows::oneGone, x -> x.paint(piece, 600));
        }
        E.says("Promise 10", "Throws `IllegalArgumentException` if heat is out of range");
        for (int heat : new int[] {499, 701, 0, -500, -600, 750, Integer.MIN_VALUE, Integer.MAX_VALUE}) {
            E.badArgument(Windows::oneGone, x -> x.paint(0, heat));
            E.badArgument(Windows::fullyPainted, x -> x.paint(0, heat));
        }
        E.says("Promise 10", "Throws `IllegalStateException` if there are 5");
        E.badState(Windows::fullyPainted, x -> x.paint(0, 500));
        E.badState(Windows::fullyPainted, x -> x.paint(0, 700));
        E.due(5, () -> painted(500, 500, 500, 500).paint(0, 700));
    }

    private static void fire() {
        E.says("Promise 11", "Fires a piece.");
        Leadlight two = Windows.halves();
        two.paint(0, 500);
        two.paint(1, 500);
        two.fire(1, 500);
        layers(two, 1, 0, 0);
        E.due(1, () -> two.piece(1, 8));
        E.says("Promise 11", "`heat`: 500 to 750");
        E.due(0, () -> painted(500).fire(0, 500));
        E.due(1, () -> painted(500).fire(0, 750));
        E.due(0, () -> new Leadlight().fire(0, 749));
        E.says("Promise 11", "Returns how many layers are spoiled by that.");
        E.due(0, () -> new Leadlight().fire(0, 750));
        Leadlight x = painted(500, 520, 540, 560, 580);
        int[] heats = {530, 531, 550, 551, 570, 571, 590, 591, 610, 611, 750};
        int[] spoiled = {0, 1, 0, 1, 0, 1, 0, 1, 0, 1, 0};
        for (int at : Windows.range(0, heats.length - 1)) {
            E.due(spoiled[at], () -> x.fire(0, heats[at]));
        }
        layers(x, 5, 0, 5);
    }

    private static void fireRefused() {
        E.says("Promise 11", AS_TOLD);
        for (int piece : NO_PIECES) {
            E.noPlace(Windows::oneGone, x -> x.fire(piece, 600));
        }
        E.says("Promise 11", "Throws `IllegalArgumentException` if heat is out of range");
        for (int heat : new int[] {499, 751, 0, -500, -600, Integer.MIN_VALUE, Integer.MAX_VALUE}) {
            E.badArgument(Windows::oneGone, x -> x.fire(0, heat));
            E.badArgument(Windows::fullyPainted, x -> x.fire(0, heat));
        }
    }

    private static void crack() {
        E.says("Promise 12", "Breaks the piece of a cell.");
        Leadlight x = Windows.quarters();
        x.crack(119);
        E.due(1, () -> x.piece(0, 3));
        E.due(0, () -> x.piece(1, 3));
        E.due(0, () -> x.piece(2, 3));
        E.due(0, () -> x.piece(3, 3));
        // One that is mended breaks again, one that is broken stays so.
        x.mend(0);
        x.crack(0);
        E.due(1, () -> x.piece(0, 3));
        x.crack(0);
        E.due(1, () -> x.piece(0, 3));
        E.says("Promise 12", "Returns that piece.");
        E.due(0, () -> x.crack(0));
        E.due(2, () -> x.crack(15));
        E.due(1, () -> x.crack(240));
        E.due(3, () -> x.crack(255));
        E.due(59, () -> Windows.sixty().crack(191));
        E.says("Promise 12", AS_TOLD);
        for (int cell : new int[] {-1, 256, 257, -16, Integer.MIN_VALUE, Integer.MAX_VALUE}) {
            E.noPlace(Windows::oneGone, w -> w.crack(cell));
        }
    }

    private static Leadlight broken(int... cells) {
        Leadlight x = Windows.quarters();
        for (int cell : cells) {
            x.crack(cell);
        }
        return x;
    }

    private static void mend() {
        E.says("Promise 13", "Mends a piece that is broken.");
        Leadlight x = broken(0);
        x.mend(0);
        E.due(2, () -> x.piece(0, 3));
        E.says("Promise 13", "Returns how many are still broken.");
        E.due(0, () -> broken(0).mend(0));
        E.due(1, () -> broken(0, 255).mend(3));
        Leadlight four = broken(0, 15, 240, 255);
        for (int piece : Windows.range(0, 3)) {
            E.due(3 - piece, () -> four.mend(piece));
        }
        // One that is gone is not still broken.
        Leadlight gone = broken(0, 240, 255);
        gone.join(2, 0);
        E.due(1, () -> gone.mend(1));
        Leadlight full = Windows.sixty();
        for (int cell : Windows.range(0, 255)) {
            if (cell % 4 == 0) {
                full.crack(cell);
            }
        }
        E.due(59, () -> full.mend(59));
        E.due(58, () -> full.mend(0));
    }

    private static void mendRefused() {
        E.says("Promise 13", AS_TOLD);
        for (int piece : NO_PIECES) {
            E.noPlace(Windows::oneGone, x -> x.mend(piece));
        }
        // 1 was broken when it went.
        E.noPlace(() -> {
            Leadlight x = broken(240);
            x.join(0, 1);
            return x;
        }, x -> x.mend(1));
        E.says("Promise 13", "Throws `IllegalStateException` if it is not broken");
        E.badState(Leadlight::new, x -> x.mend(0));
        E.badState(() -> broken(0, 15), x -> x.mend(3));
        E.badState(() -> {
            Leadlight x = broken(0);
            x.mend(0);
            return x;
        }, x -> x.mend(0));
        E.badState(() -> {
            Leadlight x = broken(0);
            x.replace(0, 0);
            return x;
        }, x -> x.mend(0));
    }

    private static void replace() {
        E.says("Promise 14", "Replaces a piece.");
        E.says("Histories", "To replace a piece makes it whole, not original, of a colour, without layers.");
        Leadlight x = Windows.fullyPainted();
        x.colour(0, 7);
        x.finish();
        x.crack(0);
        E.due(7, () -> x.replace(0, 3));
        int[] due = {128, 3, 0, 0, 0, 8, 16, 0, 0, 0};
        for (int what : Windows.range(0, 9)) {
            E.due(due[what], () -> x.piece(0, what));
        }
        E.due(1, () -> x.piece(1, 2));
        // The layers that were are not found again under new ones.
        E.due(1, () -> x.paint(0, 700));
        layers(x, 1, 0, 0);
        E.due(0, () -> x.fire(0, 730));
        layers(x, 1, 1, 0);
        // One that is mended, and not original, is whole then.
        Leadlight mended = broken(0);
        mended.mend(0);
        mended.replace(0, 0);
        E.due(0, () -> mended.piece(0, 3));
        E.says("Promise 14", "`colour`: 0 to 7");
        E.says("Promise 14", "Returns the colour before.");
        int before = 0;
        Leadlight coloured = new Leadlight();
        for (int colour : Windows.range(0, 7)) {
            int was = before;
            E.due(was, () -> coloured.replace(0, colour));
            E.due(colour, () -> coloured.piece(0, 1));
            E.due(colour, () -> coloured.replace(0, colour));
            before = colour;
        }
    }

    private static void replaceRefused() {
        E.says("Promise 14", AS_TOLD);
        for (int piece : NO_PIECES) {
            E.noPlace(Windows::oneGone, x -> x.replace(piece, 1));
        }
        E.says("Promise 14", "Throws `IllegalArgumentException` if colour is out of range");
        for (int colour : new int[] {-1, 8, 9, -8, Integer.MIN_VALUE, Integer.MAX_VALUE}) {
            E.badArgument(Windows::oneGone, x -> x.replace(0, colour));
            E.badArgument(Windows::finished, x -> x.replace(0, colour));
        }
        E.says("Promise 14", "Throws `IllegalStateException` if it is original and not broken");
        E.badState(Windows::finished, x -> x.replace(0, 1));
        E.badState(Windows::finished, x -> x.replace(1, 0));
        E.badState(() -> {
            Leadlight x = Windows.finished();
            x.crack(0);
            x.mend(0);
            return x;
        }, x -> x.replace(0, 1));
        // Broken before it became original is broken all the same.
        E.due(0, () -> {
            Leadlight x = broken(0);
            x.finish();
            return x.replace(0, 1);
        });
        E.due(0, () -> new Leadlight().replace(0, 1));
        E.due(0, () -> broken(0).replace(0, 1));
    }

    private static void isShut() {
        E.says("Promise 30", "Tells whether no piece is broken.");
        E.due(true, () -> new Leadlight().isShut());
        Leadlight x = Windows.sixty();
        E.due(true, x::isShut);
        x.crack(191);
        E.due(false, x::isShut);
        x.crack(0);
        x.mend(59);
        E.due(false, x::isShut);
        x.mend(0);
        E.due(true, x::isShut);
        x.crack(0);
        x.replace(0, 0);
        E.due(true, x::isShut);
        // A broken one that is gone is none; one that a broken one is joined with is broken on.
        Leadlight gone = broken(240);
        gone.join(0, 1);
        E.due(true, gone::isShut);
        Leadlight on = broken(240);
        on.join(1, 0);
        E.due(false, on::isShut);
    }
}
