import java.util.function.Supplier;

/** Counts answers that are as due, prints those that are not, and ends the test with exit code 1 if there was one. */
final class Check {
    private final String test;
    private int right = 0;
    private int wrong = 0;

    Check(String test) {
        this.test = test;
    }

    /** What a call answers, or the exact name of the exception that it throws, and whether the library throws it. */
    static String answer(Supplier<Object> call) {
        try {
            return String.valueOf(call.get());
        } catch (RuntimeException e) {
            return "throws " + e.getClass().getName() + (isByOurselves(e) ? "" : " out of the library");
        }
    }

    private static boolean isByOurselves(RuntimeException e) {
        StackTraceElement[] trace = e.getStackTrace();
        return trace.length > 0 && trace[0].getClassName().matches("(Leadlight|Model)(\\$.*)?");
    }

    void same(String what, Object got, Object want) {
        if (String.valueOf(want).equals(String.valueOf(got))) {
            right++;
        } else {
            wrong++;
            System.out.println(test + ": " + what + " answered " + got + ", due is " + want);
        }
    }

    void due(String what, Supplier<Object> call, Object want) {
        same(what, answer(call), want);
    }

    /** The exception's class must be just that one: the machine's own are classes below it. */
    void thrown(String what, Supplier<Object> call, Class<? extends RuntimeException> want) {
        same(what, answer(call), "throws " + want.getName());
    }

    void noPlace(String what, Supplier<Object> call) {
        thrown(what, call, IndexOutOfBoundsException.class);
    }

    void badArgument(String what, Supplier<Object> call) {
        thrown(what, call, IllegalArgumentException.class);
    }

    void badState(String what, Supplier<Object> call) {
        thrown(what, call, IllegalStateException.class);
    }

    void end() {
        System.out.println(test + ": " + right + " right, " + wrong + " wrong");
        if (wrong != 0) {
            System.exit(1);
        }
    }
}
