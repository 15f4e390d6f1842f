import java.lang.reflect.InvocationTargetException;
import java.lang.reflect.Method;
import java.lang.reflect.Modifier;
import java.net.URL;
import java.net.URLClassLoader;
import java.nio.file.DirectoryStream;
import java.nio.file.Files;
import java.nio.file.Path;
import java.util.ArrayList;
import java.util.List;
import java.util.regex.Matcher;
import java.util.regex.Pattern;
import javax.tools.ToolProvider;

/** What README.md shows and names is there now: its examples are compiled and run, its names are looked up. */
public final class ReadmeTest {
    private static final Pattern BLOCK = Pattern.compile("(?s)```java\n(.*?)```");
    private static final Pattern CALL = Pattern.compile("(x\\.\\w+\\([^;]*\\)); +// (-?\\d+)(  .+)?");
    private static final String MADE = "BellAndDrop x = new BellAndDrop();";

    public static void main(String[] args) throws Exception {
        Path root = Path.of(System.getProperty("project.root", "."));
        String readme = Files.readString(root.resolve("README.md"));
        runExamples(readme);
        callsAreNamed(readme);
        testsAreNamed(readme, root.resolve("src/test/java"));
        Due.end();
    }

    private static void runExamples(String readme) throws Exception {
        List<String> examples = new ArrayList<>();
        Matcher block = BLOCK.matcher(readme);
        while (block.find()) {
            examples.add(asCode(block.group(1)));
        }
        Due.is("examples", examples.size(), 3);
        StringBuilder code = new StringBuilder("public final class Examples {\n");
        for (int i = 0; i < examples.size(); i++) {
            code.append("    public static void example").append(i).append("() {\n").append(examples.get(i)).append("    }\n");
        }
        Class<?> compiled = compile(code.append("}\n").toString());
        for (int i = 0; i < examples.size(); i++) {
            try {
                compiled.getMethod("example" + i).invoke(null);
            } catch (InvocationTargetException e) {
                System.out.println(e.getCause().getMessage());
                Due.is("example " + i + " (0 as it says)", 1, 0);
            }
        }
    }

    /** Each line is the making of an object, or a call with its answer behind it. */
    private static String asCode(String example) {
        StringBuilder code = new StringBuilder();
        for (String line : example.split("\n")) {
            Matcher call = CALL.matcher(line);
            if (call.matches()) {
                code.append("        if (").append(call.group(1)).append(" != ").append(call.group(2))
                    .append("L) { throw new RuntimeException(\"").append(call.group(1)).append("\"); }\n");
            } else {
                Due.is("a line without an answer: " + line, line.equals(MADE) ? 0 : 1, 0);
                code.append("        ").append(line).append('\n');
            }
        }
        return code.toString();
    }

    private static Class<?> compile(String code) throws Exception {
        Path dir = Files.createTempDirectory("readme");
        Path source = dir.resolve("Examples.java");
        Files.writeString(source, code);
        int failed = ToolProvider.getSystemJavaCompiler().run(null, null, null,
            "-cp", System.getProperty("java.class.path"), "-d", dir.toString(), source.toString());
        Due.is("the examples compile", failed, 0);
        Class<?> made = new URLClassLoader(new URL[] {dir.toUri().toURL()}, ReadmeTest.class.getClassLoader())
            .loadClass("Examples");
        Files.delete(dir.resolve("Examples.class"));
        Files.delete(source);
        Files.delete(dir);
        return made;
    }

    private static void callsAreNamed(String readme) {
        String table = readme.substring(readme.indexOf("| Signs, ends"), readme.indexOf("## Tests"));
        int calls = 0;
        for (Method m : BellAndDrop.class.getDeclaredMethods()) {
            if (Modifier.isPublic(m.getModifiers())) {
                calls++;
                Due.is("the table names " + m.getName(), table.contains("`" + m.getName() + "`") ? 1 : 0, 1);
            }
        }
        Due.is("names in the table", table.split("`").length / 2, calls);
    }

    private static void testsAreNamed(String readme, Path tests) throws Exception {
        String part = readme.substring(readme.indexOf("## Tests"));
        try (DirectoryStream<Path> files = Files.newDirectoryStream(tests, "*.java")) {
            for (Path file : files) {
                String name = file.getFileName().toString().replace(".java", "");
                Due.is("README.md names " + name, part.contains("`" + name + "`") ? 1 : 0, 1);
            }
        }
        Matcher named = Pattern.compile("`((?:helpers/)?\\w+)(?:\\.java)?`").matcher(part);
        while (named.find()) {
            String name = named.group(1);
            if (name.endsWith("Test") || name.startsWith("helpers/")) {
                Due.is("there is " + name, Files.exists(tests.resolve(name + ".java")) ? 1 : 0, 1);
            }
        }
    }
}
