import java.util.function.Supplier;

/** Long mixed runs, each call compared with the Model; what a call that throws would change shows in later ones. */
public final class ModelTest {
    private static final int CALLS = 512;
    private static final int RUNS = 600;
    private static final int[] EDGES = {Integer.MIN_VALUE, -17, -1, 15, 16, 31, 60, 64, 256, 10000, Integer.MAX_VALUE};

    private final Check check = new Check("ModelTest");
    private final int run;
    private long seed;
    private Leadlight made;
    private Model model;
    /** How often, of 16, a run divides; how often, of 100, an argument is an edge; whether it finishes. */
    private final int dividing;
    private final int edging;
    private final boolean finishing;
    private int calls = 0;

    private ModelTest(int run) {
        this.run = run;
        this.seed = 7919L * run + 1;
        this.dividing = run % 5 * 3;
        this.edging = run % 3 * 2;
        this.finishing = run % 4 == 3;
    }

    public static void main(String[] args) {
        Check all = new Check("ModelTest");
        int wrong = 0;
        for (int run = 0; run < RUNS && wrong < 5; run++) {
            if (!new ModelTest(run).agrees()) {
                wrong++;
            }
        }
        all.same("runs that differ from the model", wrong, 0);
        all.end();
    }

    private int below(int bound) {
        seed = seed * 6364136223846793005L + 1442695040888963407L;
        return (int) ((seed >>> 33) % bound);
    }

    /** Mostly from least to most, now and then just outside of them or far away. */
    private int from(int least, int most) {
        if (below(100) < edging) {
            int which = below(EDGES.length + 2);
            return which < EDGES.length ? EDGES[which] : which == EDGES.length ? least - 1 : most + 1;
        }
        return least + below(most - least + 1);
    }

    private int somePiece() {
        return below(12) == 0 ? from(0, 59) : model.pieceOf(below(256));
    }

    private boolean agrees() {
        made = new Leadlight();
        model = new Model();
        while (calls < CALLS) {
            if (!step(calls)) {
                return false;
            }
        }
        return true;
    }

    private boolean same(int call, String what, Supplier<Object> got, Supplier<Object> want) {
        calls++;
        String due = Check.answer(want);
        String answer = Check.answer(got);
        if (!due.equals(answer)) {
            System.out.println("run " + run + ", call " + call + ": " + what + " answered " + answer + ", due is " + due);
        }
        return due.equals(answer);
    }

    private boolean step(int call) {
        if (below(16) < dividing) {
            return change(call, 0);
        }
        return below(2) == 0 ? change(call, below(16)) : ask(call, below(18));
    }

    private boolean change(int call, int which) {
        int p = somePiece();
        int q = below(3) == 0 ? somePiece() : p;
        switch (which) {
            case 0: {
                int line = from(0, 30);
                return same(call, "divide(" + p + ", " + line + ")", () -> made.divide(p, line), () -> model.divide(p, line));
            }
            case 1:
            case 2:
            case 3: {
                int cell = from(0, 255);
                int to = below(4) != 0 && cell >= 16 && cell < 240 ? model.pieceOf(cell + (below(2) == 0 ? 16 : -16)) : p;
                return same(call, "give(" + cell + ", " + to + ")", () -> made.give(cell, to), () -> model.give(cell, to));
            }
            case 4: {
                return same(call, "join(" + p + ", " + q + ")", () -> made.join(p, q), () -> model.join(p, q));
            }
            case 5: {
                int colour = from(0, 7);
                return same(call, "colour(" + p + ", " + colour + ")", () -> made.colour(p, colour), () -> model.colour(p, colour));
            }
            case 6:
                if (!finishing || below(6) != 0) {
                    return true;
                }
                return same(call, "finish()", () -> made.finish(), () -> model.finish());
            case 7: {
                int heart = from(1, 5);
                return same(call, "heart(" + heart + ")", () -> made.heart(heart), () -> model.heart(heart));
            }
            case 8: {
                int width = below(2) == 0 ? from(4, 40) : from(4, 12);
                return same(call, "sheet(" + width + ")", () -> made.sheet(width), () -> model.sheet(width));
            }
            case 9: {
                int row = from(0, 14);
                return same(call, "bar(" + row + ")", () -> made.bar(row), () -> model.bar(row));
            }
            case 10:
            case 11: {
                int heat = from(500, 700);
                return same(call, "paint(" + p + ", " + heat + ")", () -> made.paint(p, heat), () -> model.paint(p, heat));
            }
            case 12: {
                int heat = from(500, 750);
                return same(call, "fire(" + p + ", " + heat + ")", () -> made.fire(p, heat), () -> model.fire(p, heat));
            }
            case 13: {
                int cell = from(0, 255);
                return same(call, "crack(" + cell + ")", () -> made.crack(cell), () -> model.crack(cell));
            }
            case 14:
                return same(call, "mend(" + p + ")", () -> made.mend(p), () -> model.mend(p));
            default: {
                int colour = from(0, 7);
                return same(call, "replace(" + p + ", " + colour + ")", () -> made.replace(p, colour), () -> model.replace(p, colour));
            }
        }
    }

    private boolean ask(int call, int which) {
        int p = somePiece();
        switch (which) {
            case 0:
                return same(call, "pieces()", () -> made.pieces(), () -> model.pieces());
            case 1: {
                int cell = from(0, 255);
                return same(call, "pieceOf(" + cell + ")", () -> made.pieceOf(cell), () -> model.pieceOf(cell));
            }
            case 2:
            case 3: {
                int what = from(0, 9);
                return same(call, "piece(" + p + ", " + what + ")", () -> made.piece(p, what), () -> model.piece(p, what));
            }
            case 4:
                return same(call, "bestLine(" + p + ")", () -> made.bestLine(p), () -> model.bestLine(p));
            case 5:
                return same(call, "lead()", () -> made.lead(), () -> model.lead());
            case 6:
                return same(call, "joints()", () -> made.joints(), () -> model.joints());
            case 7:
                return same(call, "weight()", () -> made.weight(), () -> model.weight());
            case 8: {
                int place = from(0, Math.max(0, model.pieces() - 1));
                return same(call, "assembled(" + place + ")", () -> made.assembled(place), () -> model.assembled(place));
            }
            case 9: {
                int colour = from(0, 7);
                return same(call, "sheets(" + colour + ")", () -> made.sheets(colour), () -> model.sheets(colour));
            }
            case 10:
                return same(call, "laid(" + p + ")", () -> made.laid(p), () -> model.laid(p));
            case 11: {
                int colour = from(0, 7);
                return same(call, "waste(" + colour + ")", () -> made.waste(colour), () -> model.waste(colour));
            }
            case 12: {
                int depth = from(0, 64);
                int column = from(-8, 24);
                int hour = from(7, 17);
                return same(call, "floor(" + depth + ", " + column + ", " + hour + ")",
                        () -> made.floor(depth, column, hour), () -> model.floor(depth, column, hour));
            }
            case 16: {
                int depth = from(0, 64);
                int column = from(-8, 24);
                int hour = from(7, 17);
                return same(call, "floorAnew(" + depth + ", " + column + ", " + hour + ")",
                        () -> made.floorAnew(depth, column, hour), () -> model.floorAnew(depth, column, hour));
            }
            case 13: {
                int row = from(0, 14);
                return same(call, "crosses(" + row + ")", () -> made.crosses(row), () -> model.crosses(row));
            }
            case 14: {
                int panel = from(0, 5);
                int wind = from(0, 9);
                return same(call, "bends(" + panel + ", " + wind + ")", () -> made.bends(panel, wind), () -> model.bends(panel, wind));
            }
            case 15:
                return same(call, "isShut()", () -> made.isShut(), () -> model.isShut());
            default: {
                int place = from(0, 20);
                return same(call, "history(" + p + ", " + place + ")", () -> made.history(p, place), () -> model.history(p, place));
            }
        }
    }
}
