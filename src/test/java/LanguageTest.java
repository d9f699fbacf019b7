import java.lang.reflect.Constructor;
import java.lang.reflect.Field;
import java.lang.reflect.Method;
import java.lang.reflect.Modifier;
import java.nio.file.Files;
import java.nio.file.Path;
import java.util.Arrays;
import java.util.List;
import java.util.TreeSet;
import java.util.regex.Matcher;
import java.util.regex.Pattern;

/** What of LANGUAGE.md can be seen by the compiled class and by the letters of its source. */
public final class LanguageTest {
    private static final Due due = new Due("LanguageTest");
    private static final String FACE = "account again air alert best close count debt drop empty erase fault log moon next "
            + "placed placement placements plan price rule seeing share slots stands state sure target told unworld value "
            + "watch world worth write";

    private LanguageTest() {
    }

    public static void main(String[] args) throws Exception {
        face();
        nested();
        source(Files.readString(Path.of("src/main/java/SharedNights.java")));
        due.end();
    }

    private static void face() {
        TreeSet<String> seen = new TreeSet<>();
        TreeSet<String> hidden = new TreeSet<>();
        for (Method m : SharedNights.class.getDeclaredMethods()) {
            if (Modifier.isPrivate(m.getModifiers())) {
                hidden.add(m.getName());
            } else {
                due.is(m.getName() + " is public", Modifier.isPublic(m.getModifiers()) ? 1 : 0, 1);
                due.is(m.getName() + " stands once", seen.add(m.getName()) ? 1 : 0, 1);
            }
            due.is("parameters of " + m.getName(), Math.max(7, m.getParameterCount()), 7);
        }
        due.same("the face", String.join(" ", seen), FACE);
        hidden.retainAll(seen);
        due.same("private methods named as public ones", hidden.toString(), "[]");
        Constructor<?>[] made = SharedNights.class.getDeclaredConstructors();
        due.is("constructors", made.length, 1);
        due.is("final", Modifier.isFinal(SharedNights.class.getModifiers()) ? 1 : 0, 1);
        List<String> constants = Arrays.asList("NONE", "UNKNOWN", "OUTSIDE", "NOT", "FULL");
        for (Field f : SharedNights.class.getDeclaredFields()) {
            boolean open = !Modifier.isPrivate(f.getModifiers());
            due.is(f.getName() + " is open", open ? 1 : 0, constants.contains(f.getName()) ? 1 : 0);
        }
        fields(SharedNights.class);
    }

    private static void fields(Class<?> c) {
        int own = 0;
        for (Field f : c.getDeclaredFields()) {
            if (Modifier.isStatic(f.getModifiers())) {
                due.is(f.getName() + " is final", Modifier.isFinal(f.getModifiers()) ? 1 : 0, 1);
            } else {
                own++;
            }
        }
        due.is("fields of " + c.getSimpleName(), Math.max(20, own), 20);
    }

    private static void nested() {
        List<String> face = Arrays.asList(FACE.split(" "));
        Class<?>[] all = SharedNights.class.getDeclaredClasses();
        due.is("classes", Math.max(12, all.length + 1), 12);
        for (Class<?> c : all) {
            int flags = c.getModifiers();
            due.is(c.getSimpleName() + " is static", Modifier.isStatic(flags) ? 1 : 0, 1);
            due.is(c.getSimpleName() + " is hidden", Modifier.isPublic(flags) || Modifier.isProtected(flags) ? 1 : 0, 0);
            fields(c);
            for (Method m : c.getDeclaredMethods()) {
                due.is(m.getName() + " is a name of the face", face.contains(m.getName()) ? 1 : 0, 0);
                due.is("parameters of " + m.getName(), Math.max(7, m.getParameterCount()), 7);
            }
        }
    }

    private static void source(String text) {
        String code = text.replaceAll("(?s)/\\*.*?\\*/", "").replaceAll("//[^\n]*", "");
        String[] words = {"throw", "throws", "try", "catch", "finally", "synchronized", "assert", "import", "package",
            "native", "volatile", "transient", "protected", "Object", "equals", "hashCode", "toString"};
        for (String word : words) {
            due.is("the word " + word, Pattern.compile("\\b" + word + "\\b").matcher(code).find() ? 1 : 0, 0);
        }
        due.is("Exact", code.contains("Exact") ? 1 : 0, 0);
        due.is("lambdas", code.contains("->") ? 1 : 0, 0);
        due.is("method references", code.contains("::") ? 1 : 0, 0);
        Matcher calls = Pattern.compile("\\b(Math|Integer|Long|System|Arrays|String)\\.(\\w+)").matcher(code);
        List<String> known = Arrays.asList("Math.abs", "Math.min", "Integer.MIN_VALUE", "Long.bitCount", "System.arraycopy");
        while (calls.find()) {
            due.is("the library's " + calls.group(), known.contains(calls.group()) ? 1 : 0, 1);
        }
        lengths(text.split("\n"));
    }

    /** Methods end with a brace as far in as they begin. */
    private static void lengths(String[] lines) {
        Pattern head = Pattern.compile("^( {4}| {8})(?! )(?!.*\\bclass\\b)[\\w\\[\\] ]+\\([^;]*\\) \\{$");
        for (int i = 0; i < lines.length; i++) {
            Matcher m = head.matcher(lines[i]);
            if (!m.matches() || lines[i].trim().matches("(if|for|while|switch) .*")) {
                continue;
            }
            int end = i;
            while (!lines[end].equals(m.group(1) + "}")) {
                end++;
            }
            due.is("lines of " + lines[i].trim(), Math.max(60, end - i + 1), 60);
        }
    }
}
