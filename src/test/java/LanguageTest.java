import java.io.IOException;
import java.nio.file.Files;
import java.nio.file.Path;
import java.util.List;

/** Rules of LANGUAGE.md that show in the program's words. */
final class LanguageTest {
    private static final Path SOURCE = Path.of("src/main/java/Shelfwalk.java");
    private static final String[] RULED_OUT = {
        "import ", "package ", "->", "::", "catch", "finally", "assert ", "synchronized", "while (true",
        "Exact(", "System.", "Math.random", "Thread", "String.format", "equals(Object", "hashCode", "toString()",
        "protected ", "static {",
    };
    private static final int LONGEST_METHOD = 60;

    public static void main(String[] args) throws IOException {
        List<String> lines = Files.readAllLines(SOURCE);
        for (String word : RULED_OUT) {
            Check.same("lines with " + word, lines.stream().filter(line -> line.contains(word)).count(), 0);
        }
        Check.holds("signs are plain", lines.stream().allMatch(line -> line.chars().allMatch(sign -> sign < 127)));
        Check.holds("few classes", lines.stream().filter(line -> line.contains(" class ")).count() <= 12);
        Check.holds("short methods", longestMethod(lines) <= LONGEST_METHOD);
        Check.same("arrays are made in fields alone", lines.stream()
            .filter(line -> line.matches(".*new \\w+\\[.*") && !line.contains("private final")).count(), 0);
        Check.end("LanguageTest");
    }

    private static int longestMethod(List<String> lines) {
        int longest = 0;
        int from = 0;
        for (int k = 0; k < lines.size(); k++) {
            String line = lines.get(k);
            if (line.endsWith("{") && line.contains("(") && !line.trim().matches("(if|for|while|switch|\\}).*")) {
                from = k;
            }
            if (line.matches(" {4}( {4})?\\}")) {
                longest = Math.max(longest, Math.min(k - from, 1000));
            }
        }
        return longest;
    }
}
