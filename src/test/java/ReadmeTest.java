import java.io.IOException;
import java.lang.reflect.InvocationTargetException;
import java.lang.reflect.Method;
import java.net.URL;
import java.net.URLClassLoader;
import java.nio.file.Files;
import java.nio.file.Path;
import java.util.List;
import java.util.regex.Matcher;
import java.util.regex.Pattern;
import java.util.stream.Stream;
import javax.tools.ToolProvider;

/** Runs the example of README.md as it stands there; a comment that begins with "=" is the answer that is due. */
public final class ReadmeTest {
    private static final Pattern ANSWER = Pattern.compile("( *)(desk\\..*); +// = (\\w+).*");
    private static final Check CHECK = new Check();

    public static void main(String[] args) throws IOException, ReflectiveOperationException {
        List<String> readme = Files.readAllLines(Path.of("README.md"));
        Path folder = Files.createTempDirectory("readme");
        try {
            run(folder, exampleOf(readme));
        } finally {
            for (String name : new String[] {"Example.java", "Example.class"}) {
                Files.deleteIfExists(folder.resolve(name));
            }
            Files.delete(folder);
        }
        namesEachTest(String.join("\n", readme));
        CHECK.end();
    }

    /** Called by the example, which is compiled later and so cannot see anything that is not public. */
    public static void due(String call, String due, Object got) {
        CHECK.same("README.md: " + call, due, String.valueOf(got));
    }

    private static String exampleOf(List<String> readme) {
        StringBuilder code = new StringBuilder("public final class Example {\npublic static void main(String[] args) {\n");
        boolean isCode = false;
        int answers = 0;
        for (String line : readme) {
            Matcher answer = ANSWER.matcher(line);
            if (line.startsWith("```")) {
                isCode = line.equals("```java");
            } else if (isCode && answer.matches()) {
                String call = answer.group(2);
                code.append("ReadmeTest.due(\"").append(call).append("\", \"").append(answer.group(3)).append("\", ");
                code.append(call).append(");\n");
                answers++;
            } else if (isCode) {
                code.append(line).append('\n');
            }
        }
        CHECK.same("README.md tells answers", true, answers > 0);
        return code.append("}\n}\n").toString();
    }

    private static void run(Path folder, String code) throws IOException, ReflectiveOperationException {
        Path file = Files.writeString(folder.resolve("Example.java"), code);
        int compiled = ToolProvider.getSystemJavaCompiler().run(null, null, null, "-cp",
            System.getProperty("java.class.path"), "-d", folder.toString(), file.toString());
        CHECK.same("the compiler on README.md's example", 0, compiled);
        if (compiled != 0) {
            return;
        }
        int before = CHECK.asked();
        try (URLClassLoader loader = new URLClassLoader(new URL[] {folder.toUri().toURL()})) {
            Method main = loader.loadClass("Example").getMethod("main", String[].class);
            main.invoke(null, (Object) new String[0]);
        } catch (InvocationTargetException ended) {
            CHECK.report("README.md's example ended with " + ended.getCause());
        }
        int expected = code.split("ReadmeTest\\.due").length - 1;
        CHECK.same("all answers of README.md were asked", expected, CHECK.asked() - before);
    }

    private static void namesEachTest(String readme) throws IOException {
        try (Stream<Path> files = Files.list(Path.of("src/test/java"))) {
            for (Path file : (Iterable<Path>) files.sorted()::iterator) {
                String name = file.getFileName().toString().replace(".java", "");
                if (name.endsWith("Test")) {
                    CHECK.same("README.md names " + name, true, readme.contains("| `" + name + "` |"));
                }
            }
        }
    }
}
