import java.io.IOException;
import java.io.UncheckedIOException;
import java.nio.file.Files;
import java.nio.file.Path;
import java.util.ArrayList;
import java.util.List;

/** The document's sentences, so that tests name them in its own words. */
final class Document {
    /** The sections that hold for all promises stand under this number. */
    static final int ALL = 0;

    private static final Path PATH = Path.of("../shared/DOC.md");
    private static final int NOT_PROMISED = -1;
    private static final List<String> LINES = lines();

    private Document() {
    }

    static boolean says(int promise, String words) {
        return textOf(promise).contains(words) || textOf(ALL).contains(words);
    }

    /** What stands between full stops, semicolons and ends of lines in a promise's section. */
    static List<String> sentences(int promise) {
        List<String> sentences = new ArrayList<>();
        for (String line : textOf(promise).split("\n")) {
            for (String sentence : line.split("(?<=[.;]|\\.\\))\\s+")) {
                if (isSentence(sentence)) {
                    sentences.add(sentence);
                }
            }
        }
        return sentences;
    }

    private static boolean isSentence(String text) {
        return !text.isBlank() && !text.equals(text.toUpperCase());
    }

    private static String textOf(int promise) {
        StringBuilder text = new StringBuilder();
        int section = NOT_PROMISED;
        boolean isCode = false;
        for (String line : LINES) {
            isCode ^= line.startsWith("```");
            if (line.startsWith("#")) {
                section = sectionOf(line);
            } else if (section == promise && !isCode && !line.startsWith("```")) {
                text.append(line).append('\n');
            }
        }
        return text.toString();
    }

    private static int sectionOf(String heading) {
        if (heading.matches("## Promise \\d+: .*")) {
            return Integer.parseInt(heading.replaceAll("## Promise (\\d+): .*", "$1"));
        }
        return heading.matches("## (What it is|Terms)") ? ALL : NOT_PROMISED;
    }

    private static List<String> lines() {
        try {
            return Files.readAllLines(PATH);
        } catch (IOException e) {
            throw new UncheckedIOException(e);
        }
    }
}
