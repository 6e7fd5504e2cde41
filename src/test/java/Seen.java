import java.util.ArrayList;
import java.util.List;
import java.util.function.Function;
import java.util.function.Supplier;

/** All that can be seen of a window. It is made anew each so many calls, as none is good for more than 512. */
final class Seen {
    private static final int CALLS = 380;

    private final Supplier<Leadlight> window;
    private final List<String> told = new ArrayList<>();
    private Leadlight x;
    private int left = 0;

    private Seen(Supplier<Leadlight> window) {
        this.window = window;
    }

    /** The first call that two windows answer differently, or nothing. */
    static String difference(Supplier<Leadlight> one, Supplier<Leadlight> other) {
        List<String> first = of(one);
        List<String> second = of(other);
        for (int at = 0; at < first.size() && at < second.size(); at++) {
            if (!first.get(at).equals(second.get(at))) {
                return first.get(at) + " and " + second.get(at);
            }
        }
        return first.size() == second.size() ? "" : "more calls";
    }

    static List<String> of(Supplier<Leadlight> window) {
        Seen seen = new Seen(window);
        seen.wholeWindow();
        int made = seen.piecesMade();
        for (int piece = 0; piece <= made; piece++) {
            seen.piece(piece);
        }
        for (int piece = 0; piece < made; piece++) {
            seen.heats(piece);
        }
        return seen.told;
    }

    private String ask(String name, Function<Leadlight, Object> call) {
        if (left == 0) {
            x = window.get();
            left = CALLS;
        }
        left--;
        String answer = Check.answer(() -> call.apply(x));
        told.add(name + " is " + answer);
        return answer;
    }

    private void wholeWindow() {
        ask("pieces", Leadlight::pieces);
        ask("lead", Leadlight::lead);
        ask("joints", Leadlight::joints);
        ask("weight", Leadlight::weight);
        ask("isShut", Leadlight::isShut);
        for (int cell = 0; cell < 256; cell++) {
            int asked = cell;
            ask("pieceOf " + cell, w -> w.pieceOf(asked));
        }
        for (int place = 0; place <= 60; place++) {
            int asked = place;
            ask("assembled " + place, w -> w.assembled(asked));
        }
        for (int colour = 0; colour < 8; colour++) {
            int asked = colour;
            ask("sheets " + colour, w -> w.sheets(asked));
            ask("waste " + colour, w -> w.waste(asked));
        }
        for (int panel = 0; panel <= 6; panel++) {
            int asked = panel;
            ask("bends " + panel, w -> w.bends(asked, 9));
        }
        for (int depth = 0; depth <= 10; depth++) {
            int asked = depth;
            ask("floor " + depth, w -> w.floor(asked, 3, 12));
        }
        left = 0;
        ask("heart", w -> w.heart(1));
        ask("sheet", w -> w.sheet(4));
        left = 0;
    }

    private int piecesMade() {
        for (int piece = 0; piece < 60; piece++) {
            int asked = piece;
            if (ask("made " + piece, w -> w.history(asked, 0)).startsWith("throws")) {
                return piece;
            }
        }
        return 60;
    }

    private void piece(int piece) {
        for (int what = 0; what <= 9; what++) {
            int asked = what;
            ask("piece " + piece + " " + what, w -> w.piece(piece, asked));
        }
        for (int place = 0; place <= 20; place++) {
            int asked = place;
            ask("history " + piece + " " + place, w -> w.history(piece, asked));
        }
        ask("laid " + piece, w -> w.laid(piece));
        ask("bestLine " + piece, w -> w.bestLine(piece));
    }

    /** A layer's heat is told only by the firing that spoils it. */
    private void heats(int piece) {
        String layers = ask("layers of " + piece, w -> w.piece(piece, 7));
        if (layers.startsWith("throws") || layers.equals("0")) {
            return;
        }
        left = 0;
        for (int heat = 500; heat <= 750; heat++) {
            int asked = heat;
            ask("fire " + piece + " " + heat, w -> w.fire(piece, asked));
            if (heat % 5 == 0) {
                ask("fired " + piece + " " + heat, w -> w.piece(piece, 8));
            }
        }
        left = 0;
    }
}
