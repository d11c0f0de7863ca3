import java.lang.reflect.Method;
import java.lang.reflect.Modifier;
import java.nio.file.Files;
import java.nio.file.Path;
import java.util.Map;
import java.util.Set;
import java.util.TreeMap;
import java.util.TreeSet;
import java.util.regex.Matcher;
import java.util.regex.Pattern;

/** README.md says what holds: its example, its table of calls, its list of tests. */
public final class ReadmeTest {
    private static final Check CHECK = new Check("ReadmeTest");

    private final Map<String, Method> methods = new TreeMap<>();

    private ReadmeTest() {
        for (Method method : LeapDesigner.class.getDeclaredMethods()) {
            if (Modifier.isPublic(method.getModifiers())) {
                methods.put(method.getName(), method);
            }
        }
    }

    public static void main(String[] args) throws Exception {
        String page = Files.readString(Path.of("README.md"));
        ReadmeTest test = new ReadmeTest();
        test.example(page);
        test.table(page, Files.readString(Path.of("../shared/DOC.md")));
        tests(page);
        CHECK.end();
    }

    private void example(String page) throws Exception {
        LeapDesigner desk = new LeapDesigner();
        Matcher line = Pattern.compile("(?m)^desk\\.(\\w+)\\((.*?)\\); +// (\\S+)$").matcher(page);
        int lines = 0;
        while (line.find()) {
            Method method = methods.get(line.group(1));
            Class<?>[] types = method.getParameterTypes();
            String[] told = line.group(2).isEmpty() ? new String[0] : line.group(2).split(", ");
            Object[] arguments = new Object[types.length];
            for (int i = 0; i < types.length; i++) {
                arguments[i] = argument(types[i], told[i]);
            }
            CHECK.due(line.group(), value(line.group(3)), answer(method.invoke(desk, arguments)));
            lines++;
        }
        CHECK.due("lines of the example", true, lines > 20);
    }

    private static Object argument(Class<?> type, String told) {
        if (type == boolean.class) {
            return Boolean.valueOf(told);
        }
        long number = Long.decode(told.replace("L", ""));
        return type == long.class ? (Object) number : (Object) (int) number;
    }

    /** With -1 for every number a call can't be; so says the first word of its last column. */
    private void table(String page, String document) throws Exception {
        Set<String> told = new TreeSet<>();
        Matcher row = Pattern.compile("(?m)^\\| `(\\w+)\\((.*?)\\)` \\| .* \\| `([^`]+)`[^|]*\\|$").matcher(page);
        while (row.find()) {
            Method method = methods.get(row.group(1));
            CHECK.due("a call " + row.group(1), true, method != null);
            CHECK.due("a row for " + row.group(1) + " alone", true, told.add(row.group(1)));
            String face = " " + row.group(1) + "(" + row.group(2).replaceAll("(\\w+)", "(?:int|long|boolean) $1") + ");";
            CHECK.due("in the document: " + row.group(), true, find(face, document));
            if (method != null) {
                CHECK.due(row.group(), value(row.group(3)), refused(method));
            }
        }
        CHECK.due("rows for " + told, true, told.equals(methods.keySet()));
    }

    private static boolean find(String face, String document) {
        String pattern = face.replaceAll("(\\w)\\((?!\\?)", "$1\\\\(").replace(");", "\\);");
        return Pattern.compile(pattern).matcher(document).find();
    }

    private static long refused(Method method) throws Exception {
        LeapDesigner desk = new LeapDesigner();
        for (int i = 0; i < 40; i++) {
            desk.feed(0, 0, 0, 0, 0);
        }
        Class<?>[] types = method.getParameterTypes();
        Object[] arguments = new Object[types.length];
        for (int i = 0; i < types.length; i++) {
            arguments[i] = types[i] == boolean.class ? (Object) true : types[i] == long.class ? (Object) (-1L) : (Object) (-1);
        }
        return answer(method.invoke(desk, arguments));
    }

    private static void tests(String page) throws Exception {
        try (var files = Files.list(Path.of("src/test/java"))) {
            for (Path file : (Iterable<Path>) files::iterator) {
                String name = file.getFileName().toString().replace(".java", "");
                if (name.endsWith("Test")) {
                    CHECK.due("told of: " + name, true, page.contains("\n| `" + name + "` |"));
                }
            }
        }
    }

    private static long value(String told) {
        switch (told) {
            case "NONE":
                return LeapDesigner.NONE;
            case "NOTHING":
                return LeapDesigner.NOTHING;
            case "true":
                return 1;
            case "false":
                return 0;
            default:
                return Long.parseLong(told);
        }
    }

    private static long answer(Object answer) {
        return answer instanceof Boolean is ? is ? 1 : 0 : ((Number) answer).longValue();
    }
}
