import java.io.IOException;
import java.nio.file.Files;
import java.nio.file.Path;
import java.util.ArrayList;
import java.util.HashSet;
import java.util.List;
import java.util.Set;
import java.util.regex.Matcher;
import java.util.regex.Pattern;
import java.util.stream.Stream;

/** That each sentence of the document is named by a test of its own, under its promise if it is one of a promise. */
final class SentencesTest {
    private static final Path TESTS = Path.of("src/test/java");
    private static final Pattern HELD =
        Pattern.compile("Check\\.held\\((\\d+), \"((?:[^\"\\\\]|\\\\.)*)\",\\s+(\\w+::\\w+)\\)");
    private static final int PROMISES = 14;

    /** What the first section says of itself, and of what is free, can't be broken. */
    private static final List<String> WITHOUT_TEST = List.of("A recommender by walks over loans:",
        "what later calls answer is free.");

    private static final Set<String> METHODS = new HashSet<>();

    public static void main(String[] args) throws IOException {
        List<List<String>> held = heldWords();
        for (int promise = 1; promise <= PROMISES; promise++) {
            Check.holds("promise " + promise + " is told", !Document.sentences(promise).isEmpty());
            checkNamed(promise, held.get(promise));
        }
        checkNamed(Document.ALL, held.get(Document.ALL));
        Check.end("SentencesTest");
    }

    private static void checkNamed(int promise, List<String> words) {
        for (String sentence : Document.sentences(promise)) {
            boolean isFree = WITHOUT_TEST.stream().anyMatch(sentence::startsWith);
            boolean isNamed = words.stream().anyMatch(sentence::contains);
            Check.holds("promise " + promise + ", a test of \"" + sentence + "\"", isFree || isNamed);
        }
    }

    /** The words by promise; under ALL those of every promise. */
    private static List<List<String>> heldWords() throws IOException {
        List<List<String>> held = new ArrayList<>();
        for (int promise = 0; promise <= PROMISES; promise++) {
            held.add(new ArrayList<>());
        }
        try (Stream<Path> files = Files.list(TESTS)) {
            for (Path file : files.filter(path -> path.toString().endsWith("Test.java")).toList()) {
                Matcher matcher = HELD.matcher(Files.readString(file));
                while (matcher.find()) {
                    String words = matcher.group(2).replace("\\\"", "\"");
                    held.get(Integer.parseInt(matcher.group(1))).add(words);
                    held.get(Document.ALL).add(words);
                    Check.holds(matcher.group(3) + " holds one sentence alone", METHODS.add(matcher.group(3)));
                }
            }
        }
        return held;
    }
}
