import java.lang.reflect.Constructor;
import java.lang.reflect.Field;
import java.lang.reflect.Method;
import java.lang.reflect.Modifier;
import java.nio.file.Files;
import java.nio.file.Path;
import java.util.Set;
import java.util.TreeSet;
import java.util.regex.Matcher;
import java.util.regex.Pattern;

/** The class has the document's face and nothing else that is seen, and its source keeps to LANGUAGE.md. */
public final class FaceTest {
    private static final Check CHECK = new Check("FaceTest");
    private static final String SOURCE = "src/main/java/LeapDesigner.java";
    private static final String DOCUMENT = "../shared/DOC.md";

    public static void main(String[] args) throws Exception {
        face(Files.readString(Path.of(DOCUMENT)));
        nested();
        String code = bare(Files.readString(Path.of(SOURCE)));
        words(code);
        methods(code);
        CHECK.end();
    }

    private static void face(String document) {
        Set<String> want = new TreeSet<>();
        Matcher told = Pattern.compile("    public (int|long|boolean) (\\w+)\\(([^)]*)\\);").matcher(document);
        while (told.find()) {
            want.add(told.group(1) + " " + told.group(2) + "(" + told.group(3).replaceAll(" \\w+(,|$)", "$1").replace(", ", ",") + ")");
        }
        CHECK.due("methods that the document tells", 52, want.size());
        Set<String> got = new TreeSet<>();
        Set<String> hidden = new TreeSet<>();
        for (Method method : LeapDesigner.class.getDeclaredMethods()) {
            if (Modifier.isPrivate(method.getModifiers())) {
                hidden.add(method.getName());
            } else {
                CHECK.due("public, not static: " + method, Modifier.PUBLIC, method.getModifiers());
                StringBuilder types = new StringBuilder();
                for (Class<?> type : method.getParameterTypes()) {
                    types.append(types.length() == 0 ? "" : ",").append(type.getName());
                }
                got.add(method.getReturnType() + " " + method.getName() + "(" + types + ")");
            }
        }
        for (Class<?> type : LeapDesigner.class.getDeclaredClasses()) {
            for (Method method : type.getDeclaredMethods()) {
                hidden.add(method.getName());
            }
        }
        CHECK.due("face " + got, true, want.equals(got));
        for (String signature : want) {
            String name = signature.substring(signature.indexOf(' ') + 1, signature.indexOf('('));
            CHECK.due("hidden method with a public name " + name, false, hidden.contains(name));
        }
        for (Field field : LeapDesigner.class.getDeclaredFields()) {
            boolean constant = field.getName().equals("NONE") || field.getName().equals("NOTHING");
            CHECK.due("seen field " + field, constant, !Modifier.isPrivate(field.getModifiers()));
        }
        Constructor<?>[] constructors = LeapDesigner.class.getDeclaredConstructors();
        CHECK.due("constructors", 1, constructors.length);
        CHECK.due("constructor", Modifier.PUBLIC, constructors[0].getModifiers());
        CHECK.due("class", Modifier.PUBLIC | Modifier.FINAL, LeapDesigner.class.getModifiers());
    }

    private static void nested() {
        Class<?>[] inside = LeapDesigner.class.getDeclaredClasses();
        CHECK.due("some twelve classes", true, inside.length + 1 <= 12);
        for (Class<?> type : inside) {
            int modifiers = type.getModifiers();
            boolean fits = Modifier.isStatic(modifiers) && !Modifier.isPublic(modifiers) && !Modifier.isProtected(modifiers);
            CHECK.due("class inside " + type, true, fits);
            int fields = 0;
            for (Field field : type.getDeclaredFields()) {
                boolean isStatic = Modifier.isStatic(field.getModifiers());
                CHECK.due("static state " + field, false, isStatic && !Modifier.isFinal(field.getModifiers()));
                fields += isStatic ? 0 : 1;
            }
            CHECK.due("fields of " + type, true, fields <= 20);
        }
    }

    /** The source without comments and texts. */
    private static String bare(String source) {
        String bare = source.replaceAll("(?s)/\\*.*?\\*/", "").replaceAll("//[^\n]*", "");
        return bare.replaceAll("\"[^\"\n]*\"", "TEXT").replaceAll("'(\\\\.|[^'])'", "SIGN");
    }

    private static void words(String code) {
        String[] forbidden = {"throw", "throws", "try", "catch", "finally", "synchronized", "assert", "import", "package",
            "protected", "volatile", "transient", "native", "record", "sealed", "yield", "var", "System", "Object", "double",
            "float", "Integer", "hashCode", "toString", "equals", "goto"};
        for (String word : forbidden) {
            CHECK.due("word " + word, false, Pattern.compile("\\b" + word + "\\b").matcher(code).find());
        }
        for (String sign : new String[] {"->", "::", "Exact", "@", "?>"}) {
            CHECK.due("sign " + sign, false, code.contains(sign));
        }
        Matcher library = Pattern.compile("\\b(Math|Long)\\.(\\w+)").matcher(code);
        while (library.find()) {
            CHECK.due("library " + library.group(), true, Set.of("floorDiv", "floorMod", "min", "max", "abs").contains(library.group(2)));
        }
    }

    private static void methods(String code) {
        String[] lines = code.split("\n");
        Pattern head = Pattern.compile("^ +(?!(?:if|for|while|switch|return|else|do)\\b)[\\w\\[\\] ]*\\b\\w+\\(([^()]*)\\) \\{$");
        int found = 0;
        for (int i = 0; i < lines.length; i++) {
            Matcher method = head.matcher(lines[i]);
            if (method.matches() && !lines[i].contains(" new ") && !lines[i].contains("} else")) {
                found++;
                String parameters = method.group(1);
                int count = parameters.isEmpty() ? 0 : parameters.split(",").length;
                CHECK.due("parameters: " + lines[i], true, count <= 7);
                String close = lines[i].replaceAll("^( *).*", "$1}");
                int end = i;
                while (end < lines.length && !lines[end].equals(close)) {
                    end++;
                }
                CHECK.due("length: " + lines[i], true, end - i <= 60);
            }
        }
        CHECK.due("methods found", true, found > 130);
    }
}
