import java.io.IOException;
import java.lang.reflect.Method;
import java.lang.reflect.Modifier;
import java.net.URL;
import java.net.URLClassLoader;
import java.nio.file.Files;
import java.nio.file.Path;
import java.util.regex.Matcher;
import java.util.regex.Pattern;
import javax.tools.ToolProvider;

/** README.md is true: its code compiles, each call answers what stands behind "// ->", and every call is told of. */
public final class ReadmeTest {
    private static final Pattern BLOCK = Pattern.compile("```java\n(.*?)```", Pattern.DOTALL);
    private static final Pattern ANSWERED = Pattern.compile("(?m)^(x\\.[^;]*);\\s*// -> (-?\\d+|true|false).*$");
    private static final Pattern TOLD = Pattern.compile("(?m)^\\| `(\\w+)\\(([^)]*)\\)` \\| ");

    private static final Check CHECK = new Check();

    public static void main(String[] args) throws IOException, ReflectiveOperationException {
        String readme = Files.readString(Path.of("README.md"));
        everyCallIsToldOf(readme);
        theCodeHolds(readme);
        CHECK.end();
    }

    /** Called by the code that is made of README.md. */
    public static void due(String call, int got, int want) {
        CHECK.due("README.md: " + call, got, want);
    }

    public static void due(String call, boolean got, boolean want) {
        CHECK.due("README.md: " + call, got, want);
    }

    private static void everyCallIsToldOf(String readme) {
        int calls = 0;
        for (Method method : WornLines.class.getDeclaredMethods()) {
            if (Modifier.isPublic(method.getModifiers())) {
                calls++;
                CHECK.due("README.md tells of " + method, parametersTold(readme, method.getName()),
                        method.getParameterCount());
            }
        }
        CHECK.due("calls that README.md tells of", TOLD.matcher(readme).results().count(), calls);
    }

    private static int parametersTold(String readme, String name) {
        for (Matcher m = TOLD.matcher(readme); m.find();) {
            if (m.group(1).equals(name)) {
                return m.group(2).isEmpty() ? 0 : m.group(2).split(",").length;
            }
        }
        return -1;
    }

    private static void theCodeHolds(String readme) throws IOException, ReflectiveOperationException {
        StringBuilder members = new StringBuilder();
        StringBuilder body = new StringBuilder();
        for (Matcher m = BLOCK.matcher(readme); m.find();) {
            (m.group(1).startsWith("static ") ? members : body).append(m.group(1));
        }
        Matcher answered = ANSWERED.matcher(body);
        CHECK.due("README.md has answers", answered.find(), true);
        Path dir = Files.createTempDirectory("readme");
        Path source = dir.resolve("Readme.java");
        Files.writeString(source, "public final class Readme {\n" + members + "public static void run() {\n"
                + answered.replaceAll("ReadmeTest.due(\"$1\", $1, $2);") + "}\n}\n");
        int compiled = ToolProvider.getSystemJavaCompiler().run(null, null, null, "-proc:none",
                "-cp", System.getProperty("java.class.path"), "-d", dir.toString(), source.toString());
        CHECK.due("javac of README.md's code", compiled, 0);
        if (compiled == 0) {
            try (URLClassLoader loader = new URLClassLoader(new URL[] {dir.toUri().toURL()})) {
                loader.loadClass("Readme").getMethod("run").invoke(null);
            }
        }
        for (String made : new String[] {"Readme.class", "Readme.java", ""}) {
            Files.deleteIfExists(dir.resolve(made));
        }
    }
}
