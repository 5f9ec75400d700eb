import java.io.File;
import java.io.IOException;
import java.nio.charset.StandardCharsets;
import java.nio.file.Files;
import java.nio.file.Path;
import java.util.ArrayList;
import java.util.List;
import java.util.regex.Matcher;
import java.util.regex.Pattern;
import java.util.stream.Stream;

/** That README.md tells what is so: its example prints what stands behind it, its face is the document's. */
final class ReadmeTest {
    private static final Path README = Path.of("README.md");
    private static final Path DOCUMENT = Path.of("../shared/DOC.md");
    private static final Path TESTS = Path.of("src/test/java");
    private static final Pattern METHOD = Pattern.compile("public \\w+ (\\w+)\\(.*");
    private static final Pattern RANGE = Pattern.compile("- `(\\w+)`: (\\d+ to \\d+).*");
    private static final String PRINTS = "System.out.println(";

    public static void main(String[] args) throws Exception {
        checkExample(blocks(README).get(0));
        checkFace(blocks(README).get(1), blocks(DOCUMENT).get(0));
        checkRanges();
        checkExceptions();
        checkTestsAreNamed();
        Check.holds("README tells of .ci/run", Files.readString(README).contains("\n.ci/run\n"));
        Check.holds("README tells of the calls", Files.readString(README).contains("at most 512 calls"));
        Check.end("ReadmeTest");
    }

    private static List<List<String>> blocks(Path path) throws IOException {
        List<List<String>> blocks = new ArrayList<>();
        boolean isCode = false;
        for (String line : Files.readAllLines(path)) {
            if (line.startsWith("```")) {
                isCode = !isCode && line.equals("```java");
                if (isCode) {
                    blocks.add(new ArrayList<>());
                }
            } else if (isCode) {
                blocks.get(blocks.size() - 1).add(line);
            }
        }
        return blocks;
    }

    private static void checkExample(List<String> lines) throws Exception {
        List<String> due = new ArrayList<>();
        for (String line : lines) {
            if (line.startsWith(PRINTS)) {
                due.add(line.substring(line.indexOf("// ") + 3));
            }
        }
        Check.holds("the example prints", !due.isEmpty());
        Check.same("the example prints", printedBy(lines).toString(), due.toString());
    }

    private static List<String> printedBy(List<String> lines) throws Exception {
        Path folder = Files.createTempDirectory("readme");
        Path file = folder.resolve("Example.java");
        Files.writeString(file, "public final class Example { public static void main(String[] args) {\n"
            + String.join("\n", lines) + "\n} }\n");
        String path = System.getProperty("java.class.path");
        answered("javac", "-cp", path, "-d", folder.toString(), file.toString());
        List<String> printed = answered("java", "-cp", path + File.pathSeparator + folder, "Example");
        Files.deleteIfExists(folder.resolve("Example.class"));
        Files.delete(file);
        Files.delete(folder);
        return printed;
    }

    private static List<String> answered(String... command) throws Exception {
        Process process = new ProcessBuilder(command).redirectError(ProcessBuilder.Redirect.INHERIT).start();
        String answer = new String(process.getInputStream().readAllBytes(), StandardCharsets.UTF_8);
        Check.same(command[0] + " ends", process.waitFor(), 0);
        return answer.lines().toList();
    }

    private static void checkFace(List<String> told, List<String> due) throws IOException {
        Check.same("the face", String.join("\n", told), String.join("\n", due));
        for (String line : due) {
            Matcher method = METHOD.matcher(line.trim());
            if (method.matches()) {
                checkTold("what " + method.group(1) + " does", "\n| `" + method.group(1) + "` | ");
            }
        }
    }

    /** Each argument's range, as the document has it at its promise. */
    private static void checkRanges() throws IOException {
        List<String> rows = Files.readAllLines(README);
        int ranges = 0;
        for (String line : Files.readAllLines(DOCUMENT)) {
            Matcher range = RANGE.matcher(line);
            if (range.matches()) {
                ranges++;
                Check.holds("the range of " + range.group(1) + " is told", rows.stream().anyMatch(row ->
                    row.startsWith("|") && row.contains("`" + range.group(1) + "`") && row.contains(range.group(2))));
            }
        }
        Check.holds("there are ranges", ranges > 0);
    }

    private static void checkExceptions() throws IOException {
        for (String name : List.of(Check.INDEX, Check.ARGUMENT, Check.STATE)) {
            checkTold("where " + name + " is thrown", "\n| `" + name + "` | ");
        }
        for (String number : List.of("weight", "how", "damping", "bound", "what")) {
            checkTold("what " + number + " is", "\n| `" + number + "` | ");
        }
    }

    private static void checkTestsAreNamed() throws IOException {
        String text = Files.readString(README);
        try (Stream<Path> files = Files.list(TESTS)) {
            for (Path file : files.toList()) {
                String name = file.getFileName().toString().replace(".java", "");
                boolean isPromise = name.matches("Promise\\d\\d\\w+Test");
                boolean isTest = name.endsWith("Test");
                Check.holds("README names " + name, isPromise || !isTest || text.contains("`" + name + "`"));
            }
        }
    }

    private static void checkTold(String what, String words) throws IOException {
        Check.holds("README tells " + what, Files.readString(README).contains(words));
    }
}
