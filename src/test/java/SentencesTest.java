import java.io.IOException;
import java.nio.file.Files;
import java.nio.file.Path;
import java.util.ArrayList;
import java.util.Collections;
import java.util.List;
import java.util.regex.Matcher;
import java.util.regex.Pattern;
import java.util.stream.Stream;

/**
 * Every word of the document's Terms and promises is named by a test, in a line due.sentence(promise, "words"),
 * and what such a line names stands in the document, under that promise.
 */
public final class SentencesTest {
    private static final Path DOCUMENT = Path.of("../shared/DOC.md");
    private static final Path TESTS = Path.of("src/test/java");
    private static final Pattern NAMED = Pattern.compile("due\\.sentence\\((\\d+), \"((?:[^\"\\\\]|\\\\.)*)\"\\)");
    private static final int PROMISES = 22;

    private final Due due;
    private final List<String> texts = new ArrayList<>(Collections.nCopies(PROMISES + 1, ""));
    private final List<boolean[]> named = new ArrayList<>();

    private SentencesTest(Due due) {
        this.due = due;
    }

    public static void main(String[] args) throws IOException {
        Due due = new Due("SentencesTest");
        SentencesTest test = new SentencesTest(due);
        test.readDocument();
        test.readTests();
        test.tellWhatIsLeft();
        due.end();
    }

    /** The text of each promise, and of all that comes before them at 0, without headings and the methods' heads. */
    private void readDocument() throws IOException {
        int promise = -1;
        for (String line : Files.readAllLines(DOCUMENT)) {
            Matcher heading = Pattern.compile("## Promise (\\d+):.*").matcher(line);
            if (heading.matches()) {
                promise = Integer.parseInt(heading.group(1));
            } else if (line.startsWith("An object is used") || line.equals("## Terms")) {
                promise = 0;
            } else if (line.startsWith("## ")) {
                promise = -1;
            }
            if (promise >= 0 && promise <= PROMISES && !line.isBlank() && !line.startsWith("#") && !isHeading(line)) {
                String words = line.replaceFirst("^- ", "").replaceFirst("^`[^`]*\\([^`]*\\)[^`]*`: ", "");
                texts.set(promise, texts.get(promise) + words + "\n");
            }
        }
        for (int p = 0; p <= PROMISES; p++) {
            due.is("there is a text of " + p, texts.get(p).isEmpty(), false);
            named.add(new boolean[texts.get(p).length()]);
        }
    }

    private static boolean isHeading(String line) {
        return line.equals("Cables, strands") || line.equals("Cuts, ships");
    }

    private void readTests() throws IOException {
        List<Path> files;
        try (Stream<Path> found = Files.list(TESTS)) {
            files = found.filter(f -> f.toString().endsWith("Test.java")).sorted().toList();
        }
        for (Path file : files) {
            String code = Files.readString(file);
            Matcher line = NAMED.matcher(code);
            while (line.find()) {
                name(file.getFileName().toString(), Integer.parseInt(line.group(1)), line.group(2));
            }
        }
    }

    private void name(String file, int promise, String words) {
        String text = texts.get(promise);
        int at = text.indexOf(words);
        due.is(file + ": \"" + words + "\" stands in " + promise, at >= 0, true);
        while (at >= 0) {
            for (int i = at; i < at + words.length(); i++) {
                named.get(promise)[i] = true;
            }
            at = text.indexOf(words, at + 1);
        }
    }

    private void tellWhatIsLeft() {
        for (int p = 0; p <= PROMISES; p++) {
            int from = 0;
            for (String line : texts.get(p).split("\n")) {
                StringBuilder left = new StringBuilder();
                for (int i = 0; i < line.length(); i++) {
                    if (!named.get(p)[from + i]) {
                        left.append(line.charAt(i));
                    }
                }
                due.is("no test names \"" + left + "\" of " + p, left.toString().isBlank(), true);
                from += line.length() + 1;
            }
        }
    }
}
