import java.io.IOException;
import java.lang.reflect.Method;
import java.net.URI;
import java.net.URL;
import java.net.URLClassLoader;
import java.nio.file.Files;
import java.nio.file.Path;
import java.util.ArrayList;
import java.util.List;
import java.util.regex.Matcher;
import java.util.regex.Pattern;
import javax.tools.JavaCompiler;
import javax.tools.JavaFileObject;
import javax.tools.SimpleJavaFileObject;
import javax.tools.StandardJavaFileManager;
import javax.tools.ToolProvider;

/** Runs the example of README.md as it stands there, and holds it against what it shows. */
public final class ReadmeTest {
    private static final Path README = Path.of("README.md");
    private static final Pattern CALL = Pattern.compile("(x\\.\\w+\\(.*\\)); +// (-?\\d+)\\b.*");
    private static final Pattern BLOCK = Pattern.compile("(?ms)^```java\n(.*?)^```$");

    public static void main(String[] args) throws Exception {
        String readme = Files.readString(README);
        run(asProgram(example(readme)));
        testsAreNamed(readme);
        Due.is("the command that runs the tests", readme.contains("\n    .ci/run\n") ? 1 : 0, 1);
        Due.is(".ci/run can be run", Files.isExecutable(Path.of(".ci/run")) ? 1 : 0, 1);
        Due.end("ReadmeTest");
    }

    /** The lines of all blocks, as if they were one. */
    private static String example(String readme) {
        StringBuilder lines = new StringBuilder();
        Matcher block = BLOCK.matcher(readme);
        while (block.find()) {
            lines.append(block.group(1));
        }
        return lines.toString();
    }

    /** Each call that begins a line is held against the answer that is shown behind it. */
    private static String asProgram(String example) {
        StringBuilder program = new StringBuilder("public final class Example {\n"
                + "static void run(java.util.List<Object> seen) {\n");
        int calls = 0;
        for (String line : example.split("\n")) {
            Matcher call = CALL.matcher(line);
            if (call.matches()) {
                calls++;
                program.append("seen.add(\"").append(call.group(1)).append("\"); seen.add((long) ")
                        .append(call.group(1)).append("); seen.add(").append(call.group(2))
                        .append("L);\n");
            } else {
                Due.is("an answer behind " + line, line.startsWith("x.") ? 0 : 1, 1);
                program.append(line).append('\n');
            }
        }
        Due.is("calls with an answer, many", calls > 50 ? 1 : 0, 1);
        return program.append("}\n}\n").toString();
    }

    private static void run(String program) throws Exception {
        Path out = Files.createTempDirectory("readme");
        try {
            if (!isCompiled(program, out)) {
                Due.is("the example compiles", 0, 1);
                return;
            }
            List<Object> seen = new ArrayList<>();
            try (URLClassLoader loader = new URLClassLoader(new URL[] {out.toUri().toURL()})) {
                Method run = loader.loadClass("Example")
                        .getDeclaredMethod("run", List.class);
                run.setAccessible(true);
                run.invoke(null, seen);
            }
            for (int i = 0; i + 2 < seen.size(); i += 3) {
                Due.is("README.md, call " + i / 3 + ", " + seen.get(i), (Long) seen.get(i + 1),
                        (Long) seen.get(i + 2));
            }
        } finally {
            Files.deleteIfExists(out.resolve("Example.class"));
            Files.deleteIfExists(out);
        }
    }

    private static boolean isCompiled(String program, Path out) throws IOException {
        JavaCompiler javac = ToolProvider.getSystemJavaCompiler();
        if (javac == null) {
            return false;
        }
        JavaFileObject source = new SimpleJavaFileObject(URI.create("string:///Example.java"),
                JavaFileObject.Kind.SOURCE) {
            @Override
            public CharSequence getCharContent(boolean ignoreEncodingErrors) {
                return program;
            }
        };
        List<String> options = List.of("-d", out.toString(), "-cp",
                System.getProperty("java.class.path"));
        try (StandardJavaFileManager files = javac.getStandardFileManager(null, null, null)) {
            return javac.getTask(null, files, null, options, null, List.of(source)).call();
        }
    }

    private static void testsAreNamed(String readme) throws IOException {
        try (var tests = Files.newDirectoryStream(Path.of("src/test/java"), "*Test.java")) {
            for (Path test : tests) {
                String name = test.getFileName().toString().replace(".java", "");
                Due.is(name + " in README.md", readme.contains("`" + name + "`") ? 1 : 0, 1);
            }
        }
    }
}
