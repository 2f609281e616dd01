import java.lang.reflect.Field;
import java.lang.reflect.Member;
import java.lang.reflect.Method;
import java.lang.reflect.Modifier;
import java.nio.file.Files;
import java.nio.file.Path;
import java.util.Arrays;
import java.util.Map;
import java.util.Set;
import java.util.TreeMap;
import java.util.regex.Matcher;
import java.util.regex.Pattern;
import java.util.stream.Collectors;

/** What of LANGUAGE.md can be seen from the source and from the class itself. */
public final class LanguageTest {
    private static final Path SOURCE = Path.of("src/main/java/RiverTuesdays.java");
    private static final Path DOCUMENT = Path.of("../shared/DOC.md");
    private static final String[] OUTSIDE = {"throw", "throws", "try", "catch", "finally",
        "synchronized", "assert", "volatile", "transient", "native", "package", "protected",
        "equals", "hashCode", "toString", "Random", "Thread", "Object", "Exception", "var"};
    private static final Set<String> LIBRARY = Set.of("Math.max", "Math.min", "Math.floorMod",
        "Integer.bitCount", "Arrays.fill", "System.arraycopy");

    public static void main(String[] args) throws Exception {
        String source = Files.readString(SOURCE);
        Map<String, String> face = methodsOf(Files.readString(DOCUMENT));
        words(withoutComments(source));
        library(withoutComments(source));
        methodsAreShort(source);
        face(face);
        constants(Files.readString(DOCUMENT));
        for (Class<?> c : RiverTuesdays.class.getDeclaredClasses()) {
            nested(c, face.keySet());
        }
        Due.is("some twelve classes at most",
                RiverTuesdays.class.getDeclaredClasses().length < 12 ? 1 : 0, 1);
        Due.end("LanguageTest");
    }

    private static String withoutComments(String source) {
        return source.replaceAll("(?s)/\\*.*?\\*/", " ").replaceAll("//[^\n]*", " ");
    }

    private static void words(String code) {
        for (String word : OUTSIDE) {
            boolean isThere = Pattern.compile("\\b" + word + "\\b").matcher(code).find();
            Due.is("\"" + word + "\" in the source", isThere ? 1 : 0, 0);
        }
        Due.is("a lambda or a reference", code.contains("->") || code.contains("::") ? 1 : 0, 0);
        Due.is("signs 1 to 127", code.chars().allMatch(c -> c > 0 && c < 128) ? 1 : 0, 1);
    }

    private static void library(String code) {
        Matcher calls = Pattern.compile("\\b(Math|Integer|Long|Arrays|System|String|List)\\.\\w+")
                .matcher(code);
        while (calls.find()) {
            Due.is(calls.group() + " in the library", LIBRARY.contains(calls.group()) ? 1 : 0, 1);
        }
    }

    private static void methodsAreShort(String source) {
        Matcher m = Pattern.compile("(?ms)^( {4}| {8})(?:\\w[^\\n;=]*) (\\w+)\\([^;{]*\\) \\{$.*?^\\1\\}")
                .matcher(source);
        int methods = 0;
        while (m.find()) {
            methods++;
            long lines = m.group().lines().count();
            Due.is("lines of " + m.group(2) + ", too many", lines > 60 ? lines : 0, 0);
        }
        Due.is("methods seen", methods > 100 ? 1 : 0, 1);
    }

    private static boolean isHidden(Member m) {
        return Modifier.isPrivate(m.getModifiers());
    }

    /** The document's methods by their names, each with its types. */
    private static Map<String, String> methodsOf(String document) {
        Map<String, String> methods = new TreeMap<>();
        Matcher m = Pattern.compile("(?m)^    public (int|long) (\\w+)\\((.*)\\);$").matcher(document);
        while (m.find()) {
            String types = m.group(3).replaceAll(" \\w+(,|$)", "$1");
            methods.put(m.group(2), m.group(1) + " (" + types + ")");
        }
        Due.is("the document's methods", methods.size(), 49);
        return methods;
    }

    private static String typesOf(Method m) {
        return m.getReturnType() + Arrays.stream(m.getParameterTypes()).map(Class::getName)
                .collect(Collectors.joining(", ", " (", ")"));
    }

    private static void face(Map<String, String> due) {
        Class<?> c = RiverTuesdays.class;
        Due.is("public and final", c.getModifiers(), Modifier.PUBLIC | Modifier.FINAL);
        Due.is("one constructor", c.getDeclaredConstructors().length, 1);
        Due.is("of no parameters, public", c.getConstructors()[0].getParameterCount(), 0);
        int open = 0;
        for (Method m : c.getDeclaredMethods()) {
            if (isHidden(m)) {
                Due.is("private " + m.getName() + " bears a public name",
                        due.containsKey(m.getName()) ? 1 : 0, 0);
            } else {
                open++;
                boolean isAsDue = typesOf(m).equals(due.get(m.getName()))
                        && m.getModifiers() == Modifier.PUBLIC;
                Due.is(m + " is as in the document", isAsDue ? 1 : 0, 1);
            }
            parameters(m);
        }
        Due.is("methods that are not private", open, due.size());
        fields(c);
    }

    private static void constants(String document) throws IllegalAccessException {
        Matcher line = Pattern.compile("public static final int (.*);").matcher(document);
        Due.is("the document's constants", line.find() ? 1 : 0, 1);
        Map<String, Integer> due = new TreeMap<>();
        for (String part : line.group(1).split(", ")) {
            due.put(part.split(" = ")[0], Integer.parseInt(part.split(" = ")[1]));
        }
        for (Field f : RiverTuesdays.class.getDeclaredFields()) {
            if (due.containsKey(f.getName())) {
                Due.is(f.getName(), f.getInt(null), due.remove(f.getName()));
                Due.is(f.getName() + " is public", f.getModifiers(),
                        Modifier.PUBLIC | Modifier.STATIC | Modifier.FINAL);
            } else {
                Due.is("field " + f.getName() + " is hidden", isHidden(f) ? 1 : 0, 1);
            }
        }
        Due.is("constants that are missing", due.size(), 0);
    }

    private static void nested(Class<?> c, Set<String> face) {
        Due.is(c + " is static", Modifier.isStatic(c.getModifiers()) ? 1 : 0, 1);
        for (Method m : c.getDeclaredMethods()) {
            Due.is(m + " bears a public name", face.contains(m.getName()) ? 1 : 0, 0);
            parameters(m);
        }
        fields(c);
    }

    private static void parameters(Method m) {
        Due.is("parameters of " + m.getName() + ", too many", m.getParameterCount() > 7 ? 1 : 0, 0);
    }

    private static void fields(Class<?> c) {
        int own = 0;
        for (Field f : c.getDeclaredFields()) {
            if (Modifier.isStatic(f.getModifiers())) {
                Due.is(f + " is final", Modifier.isFinal(f.getModifiers()) ? 1 : 0, 1);
            } else {
                own++;
            }
        }
        Due.is("fields of " + c + ", too many", own > 20 ? own : 0, 0);
    }
}
