import java.io.IOException;
import java.nio.file.Files;
import java.nio.file.Path;
import java.util.ArrayList;
import java.util.List;
import java.util.regex.Matcher;
import java.util.regex.Pattern;
import java.util.stream.Stream;

/** Every sentence of Terms and of the promises is quoted by a test, so that a new one does not go unseen. */
public final class QuotesTest {
    private static final Due due = new Due("QuotesTest");
    private static final Path TESTS = Path.of("src", "test", "java");
    private static final String LITERAL = "\"(?:[^\"\\\\]|\\\\.)*\"";
    private static final Pattern QUOTE = Pattern.compile("sentence\\(\\s*\"([^\"]*)\",\\s*(" + LITERAL
            + "(?:\\s*\\+\\s*" + LITERAL + ")*)\\s*\\)");
    private static final int PROMISES = 36;
    // What may stand between two quotes.
    private static final String JOINTS = "======== \\d|[,;:.]|\\band\\b|\\s";

    private final String heading;
    private final String words;
    private final boolean[] quoted;

    private QuotesTest(String heading) {
        this.heading = heading;
        words = Doc.part(heading);
        quoted = new boolean[words.length()];
    }

    public static void main(String[] args) throws IOException {
        List<QuotesTest> parts = new ArrayList<>();
        parts.add(new QuotesTest("Terms"));
        for (int promise = 1; promise <= PROMISES; promise++) {
            parts.add(new QuotesTest("Promise " + promise));
        }
        due.same("behind the last promise", Doc.part("Promise " + (PROMISES + 1)), "");
        String tests = allTests();
        for (QuotesTest part : parts) {
            part.markQuotes(tests);
            part.leaveOutFace();
            part.lookForGaps();
        }
        due.end();
    }

    private static String allTests() throws IOException {
        StringBuilder all = new StringBuilder();
        try (Stream<Path> files = Files.list(TESTS)) {
            for (Path file : files.sorted().toList()) {
                all.append(Files.readString(file));
            }
        }
        return all.toString();
    }

    private void markQuotes(String tests) {
        Matcher quote = QUOTE.matcher(tests);
        while (quote.find()) {
            if (quote.group(1).equals(heading)) {
                mark(joined(quote.group(2)));
            }
        }
    }

    private static String joined(String literals) {
        StringBuilder joined = new StringBuilder();
        Matcher literal = Pattern.compile(LITERAL).matcher(literals);
        while (literal.find()) {
            joined.append(literal.group(), 1, literal.group().length() - 1);
        }
        return Doc.inOneLine(joined.toString());
    }

    private void mark(String quote) {
        for (int at = words.indexOf(quote); at >= 0; at = words.indexOf(quote, at + 1)) {
            mark(at, at + quote.length());
        }
    }

    private void mark(int from, int to) {
        for (int i = from; i < to; i++) {
            quoted[i] = true;
        }
    }

    /** FaceTest reads heads of calls and the names of their groups from the document itself. */
    private void leaveOutFace() {
        Matcher face = Pattern.compile("`(int )?\\w+\\([^`]*\\)`:|Ahead of the calls [^.]*\\.").matcher(words);
        while (face.find()) {
            mark(face.start(), face.end());
        }
    }

    private void lookForGaps() {
        due.is(heading + " stands in the document", words.isEmpty() ? 0 : 1, 1);
        int from = 0;
        for (int i = 0; i <= words.length(); i++) {
            if (i == words.length() || quoted[i]) {
                lookAtGap(words.substring(from, i).trim());
                from = i + 1;
            }
        }
    }

    private void lookAtGap(String gap) {
        if (!gap.isEmpty()) {
            due.same(heading + ", what no test quotes", gap.replaceAll(JOINTS, " ").trim(), "");
        }
    }
}
