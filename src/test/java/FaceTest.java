import java.lang.reflect.Constructor;
import java.lang.reflect.Field;
import java.lang.reflect.Method;
import java.lang.reflect.Modifier;
import java.nio.file.Files;
import java.nio.file.Path;
import java.util.Arrays;
import java.util.TreeSet;
import java.util.regex.Matcher;
import java.util.regex.Pattern;

/** The class has the constants, the constructor and the calls of the document's face, and no others. */
public final class FaceTest {
    private static final Due due = new Due("FaceTest");
    private static final String FACE = Doc.part("The public face");

    private FaceTest() {
    }

    public static void main(String[] args) throws Exception {
        constants();
        calls();
        madeAndUsedByAnybody();
        String source = Files.readString(Path.of("src/main/java/SharedNights.java"));
        namesOfParameters(source);
        groupsOfCalls(source);
        due.end();
    }

    private static void constants() throws Exception {
        due.sentence("The public face", "public static final int NONE = -1, UNKNOWN = -2, OUTSIDE = -3, NOT = -4, FULL = -5;");
        TreeSet<String> told = new TreeSet<>();
        Matcher constant = Pattern.compile("([A-Z]+) = (-?\\d+)").matcher(FACE);
        while (constant.find()) {
            told.add(constant.group(1));
            Field field = SharedNights.class.getField(constant.group(1));
            due.is(field.getName(), field.getInt(null), Integer.parseInt(constant.group(2)));
            due.same("kind of " + field.getName(), Modifier.toString(field.getModifiers()) + " " + field.getType(),
                    "public static final int");
        }
        TreeSet<String> open = new TreeSet<>();
        for (Field field : SharedNights.class.getFields()) {
            open.add(field.getName());
        }
        due.same("all constants", open.toString(), told.toString());
    }

    private static void calls() {
        due.sentence("The public face", "public int slots(int n);");
        TreeSet<String> told = new TreeSet<>();
        Matcher call = Pattern.compile("public (\\w+) (\\w+)\\(([^)]*)\\);").matcher(FACE);
        while (call.find()) {
            String types = call.group(3).replaceAll("(\\w+) \\w+", "$1").replace(" ", "");
            told.add("public " + call.group(1) + " " + call.group(2) + "(" + types + ")");
        }
        due.is("calls of the document", told.size(), 35);
        TreeSet<String> had = new TreeSet<>();
        for (Method method : SharedNights.class.getDeclaredMethods()) {
            if (!Modifier.isPrivate(method.getModifiers())) {
                String types = String.join(",", Arrays.stream(method.getParameterTypes()).map(Class::getName).toList());
                had.add(Modifier.toString(method.getModifiers()) + " " + method.getReturnType() + " " + method.getName()
                        + "(" + types + ")");
            }
        }
        due.same("all calls", had.toString(), told.toString());
    }

    private static void madeAndUsedByAnybody() {
        due.sentence("The public face", "public final class SharedNights { public static final int");
        due.same("the class", Modifier.toString(SharedNights.class.getModifiers()), "public final");
        due.same("its package", SharedNights.class.getPackageName(), "");
        due.sentence("The public face", "public SharedNights();");
        Constructor<?>[] all = SharedNights.class.getDeclaredConstructors();
        due.is("constructors", all.length, 1);
        due.same("the constructor", all[0].toString(), "public SharedNights()");
    }

    private static void namesOfParameters(String source) {
        due.sentence("The public face", "public int alert(int target, int instrument, int needs, int from, int to, int what);");
        Matcher call = Pattern.compile("public \\w+ \\w+\\([^)]*\\);").matcher(FACE);
        while (call.find()) {
            String head = call.group().replace(";", " {");
            due.is("the source has " + head, source.contains("\n    " + head + "\n") ? 1 : 0, 1);
        }
    }

    private static void groupsOfCalls(String source) {
        due.sentence("Terms", "Ahead of the calls `alert` the interface says: ---- alerts.");
        Matcher group = Pattern.compile("Ahead of the calls ([`\\w, ]+) the interface says: (---- [\\w, ]+)\\.")
                .matcher(Doc.part("Terms"));
        int groups = 0;
        while (group.find()) {
            groups++;
            int from = source.indexOf("// " + group.group(2) + "\n");
            due.is("the source says " + group.group(2), from >= 0 ? 1 : 0, 1);
            int to = source.indexOf("// ----", from + 1);
            for (String name : group.group(1).replace("`", "").split(", ")) {
                int at = source.indexOf("public int " + name + "(");
                due.is(name + " stands there", from < at && at < to ? 1 : 0, 1);
            }
        }
        due.is("groups", groups, 6);
    }
}
