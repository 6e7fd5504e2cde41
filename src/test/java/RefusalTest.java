import java.util.List;
import java.util.function.Function;

/** A call that throws changes nothing, nor does one that only asks; and the exception named first is thrown. */
public final class RefusalTest {
    private static final Check CHECK = new Check("RefusalTest");

    private RefusalTest() {
    }

    private record Call(String name, Class<? extends RuntimeException> thrown, Function<Leadlight, Object> run) {
    }

    public static void main(String[] args) {
        String before = snapshot(prepared());
        for (Call each : refused()) {
            Leadlight x = prepared();
            CHECK.thrown(each.name, () -> each.run.apply(x), each.thrown);
            CHECK.same("what there is after " + each.name, snapshot(x), before);
        }
        for (Call each : asked()) {
            Leadlight x = prepared();
            each.run.apply(x);
            CHECK.same("what there is after " + each.name, snapshot(x), before);
        }
        CHECK.end();
    }

    /** 0, 2 and 3 are original, 0 is broken and fully painted, 1 is gone, 4 replaced, 5 new beside it; five bars. */
    private static Leadlight prepared() {
        Leadlight x = Windows.quarters();
        x.join(3, 1);
        x.divide(0, 3);
        x.colour(4, 3);
        for (int heat = 500; heat < 700; heat += 40) {
            x.paint(0, heat);
        }
        x.fire(0, 560);
        x.finish();
        x.crack(0);
        x.crack(64);
        x.replace(4, 2);
        x.divide(4, 19);
        x.heart(3);
        x.sheet(17);
        for (int row : new int[] {1, 4, 7, 10, 13}) {
            x.bar(row);
        }
        return x;
    }

    private static String snapshot(Leadlight x) {
        StringBuilder told = new StringBuilder();
        for (int piece = 0; piece < 7; piece++) {
            int asked = piece;
            for (int what = 0; what < 10; what++) {
                int which = what;
                told.append(Check.answer(() -> x.piece(asked, which))).append(' ');
            }
            for (int place = 0; place < 14; place++) {
                int which = place;
                told.append(Check.answer(() -> x.history(asked, which))).append(' ');
            }
            told.append(Check.answer(() -> x.laid(asked))).append('\n');
        }
        for (int cell = 0; cell < 256; cell += 3) {
            told.append(x.pieceOf(cell)).append(' ');
        }
        for (int panel = 0; panel < 7; panel++) {
            int asked = panel;
            told.append(Check.answer(() -> x.bends(asked, 9))).append(' ');
        }
        told.append(x.weight()).append(' ').append(x.isShut()).append(' ').append(x.waste(0)).append(' ');
        return told.append(x.heart(1)).append(' ').append(x.sheet(4)).toString();
    }

    private static List<Call> refused() {
        Class<IndexOutOfBoundsException> place = IndexOutOfBoundsException.class;
        Class<IllegalArgumentException> argument = IllegalArgumentException.class;
        Class<IllegalStateException> state = IllegalStateException.class;
        return List.of(
                new Call("divide(1, 15)", place, x -> x.divide(1, 15)),
                new Call("divide(0, 15)", argument, x -> x.divide(0, 15)),
                new Call("divide(0, 1)", state, x -> x.divide(0, 1)),
                new Call("divide(4, 3)", state, x -> x.divide(4, 3)),
                new Call("give(256, 1)", place, x -> x.give(256, 1)),
                new Call("give(0, 1)", place, x -> x.give(0, 1)),
                new Call("give(128, 4)", state, x -> x.give(128, 4)),
                new Call("give(65, 0)", state, x -> x.give(65, 0)),
                new Call("give(64, 5)", state, x -> x.give(64, 5)),
                new Call("join(1, 1)", place, x -> x.join(1, 1)),
                new Call("join(4, 6)", place, x -> x.join(4, 6)),
                new Call("join(4, 4)", state, x -> x.join(4, 4)),
                new Call("join(4, 3)", state, x -> x.join(4, 3)),
                new Call("colour(1, 8)", place, x -> x.colour(1, 8)),
                new Call("colour(0, 8)", argument, x -> x.colour(0, 8)),
                new Call("colour(0, 1)", state, x -> x.colour(0, 1)),
                new Call("heart(6)", argument, x -> x.heart(6)),
                new Call("sheet(41)", argument, x -> x.sheet(41)),
                new Call("bar(15)", place, x -> x.bar(15)),
                new Call("bar(2)", state, x -> x.bar(2)),
                new Call("paint(1, 800)", place, x -> x.paint(1, 800)),
                new Call("paint(0, 800)", argument, x -> x.paint(0, 800)),
                new Call("paint(0, 600)", state, x -> x.paint(0, 600)),
                new Call("fire(1, 800)", place, x -> x.fire(1, 800)),
                new Call("fire(0, 800)", argument, x -> x.fire(0, 800)),
                new Call("crack(256)", place, x -> x.crack(256)),
                new Call("mend(1)", place, x -> x.mend(1)),
                new Call("mend(4)", state, x -> x.mend(4)),
                new Call("replace(1, 8)", place, x -> x.replace(1, 8)),
                new Call("replace(2, 8)", argument, x -> x.replace(2, 8)),
                new Call("replace(2, 1)", state, x -> x.replace(2, 1)),
                new Call("pieceOf(-1)", place, x -> x.pieceOf(-1)),
                new Call("piece(1, 10)", place, x -> x.piece(1, 10)),
                new Call("piece(0, 10)", argument, x -> x.piece(0, 10)),
                new Call("bestLine(1)", place, x -> x.bestLine(1)),
                new Call("sheets(8)", argument, x -> x.sheets(8)),
                new Call("laid(1)", place, x -> x.laid(1)),
                new Call("waste(8)", argument, x -> x.waste(8)),
                new Call("floor(0, 0, 6)", argument, x -> x.floor(0, 0, 6)),
                new Call("floorAnew(0, 0, 6)", argument, x -> x.floorAnew(0, 0, 6)),
                new Call("crosses(15)", place, x -> x.crosses(15)),
                new Call("bends(6, 10)", place, x -> x.bends(6, 10)),
                new Call("bends(0, 10)", argument, x -> x.bends(0, 10)),
                new Call("history(6, 0)", place, x -> x.history(6, 0)));
    }

    private static List<Call> asked() {
        return List.of(
                new Call("pieces()", null, x -> x.pieces()),
                new Call("pieceOf(7)", null, x -> x.pieceOf(7)),
                new Call("piece(0, 4)", null, x -> x.piece(0, 4)),
                new Call("bestLine(3)", null, x -> x.bestLine(3)),
                new Call("lead()", null, x -> x.lead()),
                new Call("joints()", null, x -> x.joints()),
                new Call("weight()", null, x -> x.weight()),
                new Call("assembled(0)", null, x -> x.assembled(0)),
                new Call("sheets(0)", null, x -> x.sheets(0)),
                new Call("laid(3)", null, x -> x.laid(3)),
                new Call("waste(0)", null, x -> x.waste(0)),
                new Call("floor(4, 4, 12)", null, x -> x.floor(4, 4, 12)),
                new Call("floorAnew(4, 4, 12)", null, x -> x.floorAnew(4, 4, 12)),
                new Call("crosses(7)", null, x -> x.crosses(7)),
                new Call("bends(0, 9)", null, x -> x.bends(0, 9)),
                new Call("isShut()", null, x -> x.isShut()),
                new Call("history(1, 0)", null, x -> x.history(1, 0)));
    }
}
