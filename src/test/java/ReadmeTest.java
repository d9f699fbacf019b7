import java.nio.file.Files;
import java.nio.file.Path;
import java.util.ArrayList;
import java.util.List;
import java.util.regex.Matcher;
import java.util.regex.Pattern;

/** The example of README.md: each call answers what README.md says behind it. */
public final class ReadmeTest {
    private static final Due due = new Due("ReadmeTest");
    private static final Pattern WRITE = Pattern.compile("write\\(x, \"([^\"]*)\"\\);");
    private static final Pattern CALL = Pattern.compile("x\\.(\\w+)\\(([-\\d, ]*)\\);\\s*// (-?\\d+).*");

    private ReadmeTest() {
    }

    public static void main(String[] args) throws Exception {
        List<String> lines = example(Files.readString(Path.of("README.md")));
        due.is("lines of the example", Math.min(30, lines.size()), 30);
        SharedNights x = new SharedNights();
        for (String line : lines) {
            Matcher text = WRITE.matcher(line);
            Matcher call = CALL.matcher(line);
            if (text.matches()) {
                Glass.write(x, text.group(1));
            } else if (call.matches()) {
                due.is(line, answer(x, call.group(1), call.group(2)), Integer.parseInt(call.group(3)));
            } else {
                due.same("a line that is neither a text nor a call", line, "");
            }
        }
        due.end();
    }

    /** The lines behind that which makes the object. */
    private static List<String> example(String readme) {
        List<String> lines = new ArrayList<>();
        boolean inside = false;
        for (String line : readme.split("\n")) {
            if (line.startsWith("```")) {
                inside = false;
            }
            if (inside) {
                lines.add(line);
            }
            if (line.startsWith("SharedNights x = new SharedNights();")) {
                inside = true;
            }
        }
        return lines;
    }

    private static int answer(SharedNights x, String name, String numbers) throws Exception {
        String[] each = numbers.isEmpty() ? new String[0] : numbers.split(", ");
        Class<?>[] types = new Class<?>[each.length];
        Object[] values = new Object[each.length];
        for (int i = 0; i < each.length; i++) {
            types[i] = int.class;
            values[i] = Integer.parseInt(each[i]);
        }
        return (int) SharedNights.class.getMethod(name, types).invoke(x, values);
    }
}
