import java.lang.management.ManagementFactory;

/** What a run makes: little for an object, next to nothing for a call. */
public final class RoomTest {
    private static final Check CHECK = new Check("RoomTest");
    private static final long BYTES_OF_AN_OBJECT = 8_000;
    private static final long BYTES_OF_A_RUN = 4_000;

    private RoomTest() {
    }

    public static void main(String[] args) {
        // What the machine itself makes when it first meets a class or a call is not counted.
        ask(new Leadlight(), 0);
        made();
        long before = made();
        Leadlight first = new Leadlight();
        long after = made();
        CHECK.same("an object of few bytes", after - before < BYTES_OF_AN_OBJECT, true);
        CHECK.same("a new object has a piece", first.pieces(), 1);
        Leadlight x = Windows.sixty();
        before = made();
        int sum = 0;
        for (int turn = 0; turn < 24; turn++) {
            sum += ask(x, turn);
        }
        after = made();
        CHECK.same("asking makes few bytes", after - before < BYTES_OF_A_RUN, true);
        CHECK.same("asked", sum != 0, true);
        CHECK.end();
    }

    private static int ask(Leadlight x, int turn) {
        int sum = x.pieces() + x.piece(turn, 4) + x.bestLine(turn) + x.lead() + x.joints() + x.assembled(turn);
        sum += x.sheets(0) + x.laid(turn) + x.waste(0) + x.floor(turn, 0, 9) + x.floorAnew(turn, 0, 9);
        return sum + x.crosses(turn % 15) + x.bends(0, 9) + x.history(turn, 0) + x.pieceOf(turn) + x.weight();
    }

    private static long made() {
        com.sun.management.ThreadMXBean threads =
                (com.sun.management.ThreadMXBean) ManagementFactory.getThreadMXBean();
        return threads.getCurrentThreadAllocatedBytes();
    }
}
