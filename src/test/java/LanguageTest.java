import java.lang.reflect.Field;
import java.lang.reflect.Member;
import java.lang.reflect.Method;
import java.lang.reflect.Modifier;
import java.nio.file.Files;
import java.nio.file.Path;
import java.util.Arrays;
import java.util.Set;
import java.util.TreeSet;
import java.util.regex.Matcher;
import java.util.regex.Pattern;
import java.util.stream.Collectors;

/** What of LANGUAGE.md can be seen from the source and from the class itself. */
public final class LanguageTest {
    private static final Path SOURCE = Path.of("src/main/java/RiverTuesdays.java");
    private static final String[] OUTSIDE = {"throw", "throws", "try", "catch", "finally",
        "synchronized", "assert", "volatile", "transient", "native", "package", "protected",
        "equals", "hashCode", "toString", "Random", "Thread", "Object", "Exception", "var"};
    private static final String[] FACE = {"row", "lay", "at", "tear", "copy", "mean", "text", "put",
        "fault", "street", "house", "mark", "sill", "flow", "shut", "pump", "hour", "undo", "water",
        "keep", "on", "harm", "wet", "when", "cut", "boat", "trade", "marks", "stands", "tuesday",
        "most", "least", "dry", "led", "sure", "look", "raise", "whose", "work", "done", "calendar",
        "years", "asked", "upper", "lower", "count", "finding", "findings", "digest"};
    private static final Set<String> LIBRARY = Set.of("Math.max", "Math.min", "Math.floorMod",
        "Integer.bitCount", "Arrays.fill", "System.arraycopy");

    public static void main(String[] args) throws Exception {
        String source = Files.readString(SOURCE);
        words(withoutComments(source));
        library(withoutComments(source));
        methodsAreShort(source);
        face();
        for (Class<?> c : RiverTuesdays.class.getDeclaredClasses()) {
            nested(c);
        }
        Due.is("some twelve classes at most",
                RiverTuesdays.class.getDeclaredClasses().length < 12 ? 1 : 0, 1);
        Due.end("LanguageTest");
    }

    private static String withoutComments(String source) {
        return source.replaceAll("(?s)/\\*.*?\\*/", " ").replaceAll("//[^\n]*", " ");
    }

    private static void words(String code) {
        for (String word : OUTSIDE) {
            boolean isThere = Pattern.compile("\\b" + word + "\\b").matcher(code).find();
            Due.is("\"" + word + "\" in the source", isThere ? 1 : 0, 0);
        }
        Due.is("a lambda or a reference", code.contains("->") || code.contains("::") ? 1 : 0, 0);
        Due.is("signs 1 to 127", code.chars().allMatch(c -> c > 0 && c < 128) ? 1 : 0, 1);
    }

    private static void library(String code) {
        Matcher calls = Pattern.compile("\\b(Math|Integer|Long|Arrays|System|String|List)\\.\\w+")
                .matcher(code);
        while (calls.find()) {
            Due.is(calls.group() + " in the library", LIBRARY.contains(calls.group()) ? 1 : 0, 1);
        }
    }

    private static void methodsAreShort(String source) {
        Matcher m = Pattern.compile("(?ms)^( {4}| {8})(?:\\w[^\\n;=]*) (\\w+)\\([^;{]*\\) \\{$.*?^\\1\\}")
                .matcher(source);
        int methods = 0;
        while (m.find()) {
            methods++;
            long lines = m.group().lines().count();
            Due.is("lines of " + m.group(2) + ", too many", lines > 60 ? lines : 0, 0);
        }
        Due.is("methods seen", methods > FACE.length + 50 ? 1 : 0, 1);
    }

    private static boolean isHidden(Member m) {
        return Modifier.isPrivate(m.getModifiers());
    }

    private static void face() {
        Class<?> c = RiverTuesdays.class;
        Due.is("public and final", c.getModifiers(), Modifier.PUBLIC | Modifier.FINAL);
        Due.is("one constructor", c.getDeclaredConstructors().length, 1);
        Set<String> open = Arrays.stream(c.getDeclaredMethods()).filter(m -> !isHidden(m))
                .map(Method::getName).collect(Collectors.toCollection(TreeSet::new));
        Due.is("the face", open.equals(new TreeSet<>(Arrays.asList(FACE))) ? 1 : 0, 1);
        Due.is("no two of one name", Arrays.stream(c.getDeclaredMethods())
                .filter(m -> !isHidden(m)).count(), FACE.length);
        for (Method m : c.getDeclaredMethods()) {
            boolean bearsName = isHidden(m) && open.contains(m.getName());
            Due.is("private " + m.getName() + " bears a public name", bearsName ? 1 : 0, 0);
            parameters(m);
        }
        for (Field f : c.getDeclaredFields()) {
            boolean isConstant = Set.of("BAD", "FULL", "FINDING", "STATE", "SPENT", "NONE")
                    .contains(f.getName());
            Due.is("field " + f.getName() + " is hidden", isHidden(f) ? 1 : 0, isConstant ? 0 : 1);
        }
        fields(c);
    }

    private static void nested(Class<?> c) {
        Due.is(c + " is static", Modifier.isStatic(c.getModifiers()) ? 1 : 0, 1);
        for (Method m : c.getDeclaredMethods()) {
            boolean bearsName = Arrays.asList(FACE).contains(m.getName());
            Due.is(m + " bears a public name", bearsName ? 1 : 0, 0);
            parameters(m);
        }
        fields(c);
    }

    private static void parameters(Method m) {
        Due.is("parameters of " + m.getName() + ", too many", m.getParameterCount() > 7 ? 1 : 0, 0);
    }

    private static void fields(Class<?> c) {
        int own = 0;
        for (Field f : c.getDeclaredFields()) {
            if (Modifier.isStatic(f.getModifiers())) {
                Due.is(f + " is final", Modifier.isFinal(f.getModifiers()) ? 1 : 0, 1);
            } else {
                own++;
            }
        }
        Due.is("fields of " + c + ", too many", own > 20 ? own : 0, 0);
    }
}
