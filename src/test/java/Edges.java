import java.util.ArrayList;
import java.util.HashMap;
import java.util.List;
import java.util.Map;
import java.util.function.Function;
import java.util.function.Predicate;
import java.util.function.Supplier;

/** Checks for one sentence of the document after the other; each must stand there, word by word. */
final class Edges {
    private final Check check;
    private final Map<String, List<String>> said = new HashMap<>();
    private String sentence = "";

    Edges(String test) {
        check = new Check(test);
    }

    /** What is checked from here on is for this sentence. */
    void says(String section, String sentence) {
        this.sentence = section + ", \"" + sentence + "\"";
        check.same(this.sentence + ": it stands in the document", Document.says(section, sentence), true);
        said.computeIfAbsent(section, any -> new ArrayList<>()).add(sentence);
    }

    private String where() {
        StackWalker.StackFrame frame = StackWalker.getInstance().walk(frames -> frames
                .filter(each -> !each.getClassName().equals("Edges")).findFirst().orElseThrow());
        return sentence + ", in line " + frame.getLineNumber() + " of " + frame.getFileName();
    }

    void due(Object want, Supplier<Object> call) {
        check.due(where(), call, want);
    }

    void same(Object want, Object got) {
        check.same(where(), got, want);
    }

    void noPlace(Supplier<Object> call) {
        check.noPlace(where(), call);
    }

    void badArgument(Supplier<Object> call) {
        check.badArgument(where(), call);
    }

    void badState(Supplier<Object> call) {
        check.badState(where(), call);
    }

    /** The call throws IndexOutOfBoundsException and changes nothing. */
    void noPlace(Supplier<Leadlight> window, Function<Leadlight, Object> call) {
        refused(window, call, IndexOutOfBoundsException.class);
    }

    /** The call throws IllegalArgumentException and changes nothing. */
    void badArgument(Supplier<Leadlight> window, Function<Leadlight, Object> call) {
        refused(window, call, IllegalArgumentException.class);
    }

    /** The call throws IllegalStateException and changes nothing. */
    void badState(Supplier<Leadlight> window, Function<Leadlight, Object> call) {
        refused(window, call, IllegalStateException.class);
    }

    private void refused(Supplier<Leadlight> window, Function<Leadlight, Object> call,
            Class<? extends RuntimeException> want) {
        String where = where();
        Leadlight x = window.get();
        check.thrown(where, () -> call.apply(x), want);
        changesNothing(window, call);
    }

    /** The window shows the same after the call, whatever the call answers or throws. */
    void changesNothing(Supplier<Leadlight> window, Function<Leadlight, Object> call) {
        String where = where();
        Supplier<Leadlight> after = () -> {
            Leadlight x = window.get();
            Check.answer(() -> call.apply(x));
            return x;
        };
        check.same(where + ", changed by the call", Seen.difference(window, after), "");
    }

    /** Each sentence of these sections must have been said, whole or in part, but for those that tell nothing to test. */
    void allSaid(Predicate<String> section, Predicate<String> nothingToTest) {
        for (String each : Document.sections()) {
            for (String due : section.test(each) ? Document.sentences(each) : List.<String>of()) {
                boolean isSaid = nothingToTest.test(due);
                for (String told : said.getOrDefault(each, List.of())) {
                    isSaid |= due.contains(told) || told.contains(due);
                }
                check.same(each + ", \"" + due + "\": it has a test", isSaid, true);
            }
        }
    }

    void end() {
        check.end();
    }
}
