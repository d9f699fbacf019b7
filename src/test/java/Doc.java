import java.io.IOException;
import java.nio.file.Files;
import java.nio.file.Path;

/** The words of the document, so that a test can quote the sentence that it holds. */
final class Doc {
    private static final Path FILE = Path.of("..", "shared", "DOC.md");
    private static final String TEXT = read();

    private Doc() {
    }

    /** Whether the words stand behind the heading ("Terms", "Promise 9") and ahead of the next one. */
    static boolean says(String heading, String words) {
        return part(heading).contains(inOneLine(words));
    }

    /** All words behind a heading and ahead of the next one, in one line; none if there is no such heading. */
    static String part(String heading) {
        for (String part : TEXT.split("\n## ")) {
            int end = Math.max(0, part.indexOf('\n'));
            String title = part.substring(0, end);
            if (title.equals(heading) || title.startsWith(heading + ":")) {
                return inOneLine(part.substring(end));
            }
        }
        return "";
    }

    static String inOneLine(String text) {
        return text.replace("```text", " ").replace("```", " ").replaceAll("\\s+", " ").trim();
    }

    private static String read() {
        try {
            return Files.readString(FILE);
        } catch (IOException e) {
            throw new IllegalStateException("the tests run from the folder of README.md, beside ../shared", e);
        }
    }
}
