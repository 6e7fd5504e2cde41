import java.io.IOException;
import java.nio.charset.StandardCharsets;
import java.nio.file.Files;
import java.nio.file.Path;
import java.util.List;
import java.util.Set;
import java.util.TreeSet;
import java.util.regex.Matcher;
import java.util.regex.Pattern;

/** What of LANGUAGE.md can be seen in the text of the class. */
public final class LanguageTest {
    private static final Check CHECK = new Check("LanguageTest");
    private static final Set<String> NAMES = Set.of("Leadlight", "Piece", "Cartoon", "Shape", "Laying", "ArrayList",
            "Arrays", "Integer", "Long", "Math", "IndexOutOfBoundsException", "IllegalArgumentException",
            "IllegalStateException");
    private static final List<String> LEFT_OUT = List.of("->", "::", "try", "catch", "finally", "assert", "instanceof",
            "synchronized", "volatile", "native", "transient", "protected", "package", "interface", "enum", "record",
            "extends", "implements", "goto", "double", "float", "var", "equals", "hashCode", "toString", "Exact", "@");

    private LanguageTest() {
    }

    public static void main(String[] args) throws IOException {
        String text = Files.readString(Path.of("src/main/java/Leadlight.java"), StandardCharsets.ISO_8859_1);
        CHECK.same("only signs 1 to 127", text.chars().allMatch(sign -> sign > 0 && sign < 128), true);
        String code = text.replaceAll("(?s)/\\*.*?\\*/", "").replaceAll("//.*", "");
        CHECK.same("texts", count(code, "\"[^\"]*\""), count(code, "throw new \\w+\\(\"[^\"]*\"\\);"));
        code = code.replaceAll("\"[^\"]*\"", "\"\"");
        imports(code);
        words(code);
        statics(code);
        methodsAreShort(code);
        CHECK.end();
    }

    private static int count(String code, String shape) {
        Matcher found = Pattern.compile(shape).matcher(code);
        int count = 0;
        while (found.find()) {
            count++;
        }
        return count;
    }

    private static void imports(String code) {
        Set<String> found = new TreeSet<>();
        Matcher each = Pattern.compile("import ([\\w.*]+);").matcher(code);
        while (each.find()) {
            found.add(each.group(1));
        }
        CHECK.same("imports", found, "[java.util.ArrayList, java.util.Arrays]");
    }

    private static void words(String code) {
        for (String word : LEFT_OUT) {
            String shape = Character.isLetter(word.charAt(0)) ? "\\b" + word + "\\b" : Pattern.quote(word);
            CHECK.same("'" + word + "' stands in it", count(code, shape), 0);
        }
        Matcher each = Pattern.compile("(?<![\\w.])[A-Z]\\w*[a-z]\\w*").matcher(code);
        Set<String> others = new TreeSet<>();
        while (each.find()) {
            others.add(each.group());
        }
        others.removeAll(NAMES);
        CHECK.same("other classes", others, "[]");
    }

    private static void statics(String code) {
        CHECK.same("static fields that are not final", count(code, "static (?!final)[\\w\\[\\]]+ \\w+ *[=;]"), 0);
        CHECK.same("static initialisers", count(code, "static *\\{"), 0);
    }

    /** A method begins at a line that ends with a brace and is not indented further than a member may be. */
    private static void methodsAreShort(String code) {
        int begun = 0;
        int longest = 0;
        int parameters = 0;
        String[] lines = code.split("\n");
        for (int at = 0; at < lines.length; at++) {
            if (lines[at].matches(" {4}( {4})?[\\w\\[\\] ]+\\(.*")) {
                begun = at;
                parameters = Math.max(parameters, lines[at].split(",").length);
            }
            if (lines[at].matches(" {4}( {4})?\\}")) {
                longest = Math.max(longest, at - begun + 1);
            }
        }
        CHECK.same("methods of at most 60 lines", longest > 5 && longest <= 60, true);
        CHECK.same("methods of at most 7 parameters", parameters <= 7, true);
    }
}
