import java.io.IOException;
import java.io.UncheckedIOException;
import java.nio.charset.StandardCharsets;
import java.nio.file.Files;
import java.nio.file.Path;
import java.util.ArrayList;
import java.util.LinkedHashMap;
import java.util.List;
import java.util.Map;
import java.util.Set;

/** What ../shared/DOC.md says, by its sections: 'Pieces', 'Paint', .., 'Promise 1', 'Promise 2', .. */
final class Document {
    /** Two headings of 'Terms' bear no sign that they are headings. */
    private static final Set<String> PLAIN_HEADINGS = Set.of("Leads, putting together", "Bars, wind");
    private static final Map<String, List<String>> SECTIONS = read();

    private Document() {
    }

    private static Map<String, List<String>> read() {
        Map<String, List<String>> found = new LinkedHashMap<>();
        List<String> section = new ArrayList<>();
        for (String line : lines()) {
            if (line.startsWith("#") || PLAIN_HEADINGS.contains(line)) {
                section = new ArrayList<>();
                found.put(line.replaceFirst("#+ ", "").replaceFirst("(Promise \\d+):.*", "$1"), section);
            } else if (!line.isBlank()) {
                section.add(line);
            }
        }
        return found;
    }

    private static List<String> lines() {
        try {
            return Files.readAllLines(Path.of("..", "shared", "DOC.md"), StandardCharsets.UTF_8);
        } catch (IOException e) {
            throw new UncheckedIOException(e);
        }
    }

    static Set<String> sections() {
        return SECTIONS.keySet();
    }

    static boolean says(String section, String sentence) {
        return String.join("\n", SECTIONS.getOrDefault(section, List.of())).contains(sentence);
    }

    /** A sentence ends with a full stop, a semicolon or its line. */
    static List<String> sentences(String section) {
        List<String> found = new ArrayList<>();
        for (String line : SECTIONS.getOrDefault(section, List.of())) {
            found.addAll(List.of(line.split("(?<=[.;]) ")));
        }
        return found;
    }
}
