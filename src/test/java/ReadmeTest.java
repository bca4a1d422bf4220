import java.io.File;
import java.io.IOException;
import java.lang.reflect.Method;
import java.lang.reflect.Modifier;
import java.net.URL;
import java.net.URLClassLoader;
import java.nio.file.Files;
import java.nio.file.Path;
import java.util.function.ObjLongConsumer;
import java.util.regex.Matcher;
import java.util.regex.Pattern;
import javax.tools.ToolProvider;

/** README.md: its example compiles and answers what it says, and each call of the face and each test stands there. */
public final class ReadmeTest {
    private static final Pattern EXAMPLE = Pattern.compile("(?s)```java\n(.*?)```");
    private static final Pattern TOLD = Pattern.compile("(?m)^ *(arm\\..*\\)); *// answers (-?\\d+).*$");

    public static void main(String[] args) throws IOException, ReflectiveOperationException {
        String readme = Files.readString(Path.of("README.md"));
        Matcher example = EXAMPLE.matcher(readme);
        theExample(example.find() ? example.group(1) : "");
        eachCall(readme);
        eachTest(readme);
        Check.end("ReadmeTest");
    }

    private static void theExample(String lines) throws IOException, ReflectiveOperationException {
        Matcher told = TOLD.matcher(lines);
        Check.due("whether the example tells ten answers", told.results().count() >= 10 ? 1 : 0, 1);
        Path place = Files.createTempDirectory("readme");
        int faults = compiled(told.replaceAll("howFarOff.accept(\"$1\", (long) $1 - ($2));"), place);
        Check.due("how javac ends with the example", faults, 0);
        if (faults == 0) {
            runExample(place);
        }
        for (File file : place.toFile().listFiles()) {
            file.delete();
        }
        place.toFile().delete();
    }

    private static int compiled(String lines, Path place) throws IOException {
        Path file = place.resolve("ReadmeExample.java");
        Files.writeString(file, "public final class ReadmeExample {\n"
            + "public static void run(java.util.function.ObjLongConsumer<String> howFarOff) {\n" + lines + "}\n}\n");
        String classes = System.getProperty("java.class.path");
        return ToolProvider.getSystemJavaCompiler()
            .run(null, null, null, "-cp", classes, "-d", place.toString(), file.toString());
    }

    private static void runExample(Path place) throws IOException, ReflectiveOperationException {
        ObjLongConsumer<String> howFarOff = (call, far) -> Check.due("how far README.md is off at " + call, far, 0);
        try (URLClassLoader loader = new URLClassLoader(new URL[] {place.toUri().toURL()})) {
            loader.loadClass("ReadmeExample").getMethod("run", ObjLongConsumer.class).invoke(null, howFarOff);
        }
    }

    private static void eachCall(String readme) {
        for (Method call : ArmTolls.class.getDeclaredMethods()) {
            if (Modifier.isPublic(call.getModifiers())) {
                Check.due("whether README.md has the call " + call.getName(),
                    readme.contains("\n| `" + call.getName() + "(") ? 1 : 0, 1);
            }
        }
    }

    private static void eachTest(String readme) {
        for (String file : new File("src/test/java").list()) {
            String name = file.replace(".java", "");
            String due = name.endsWith("Test") ? "\n| `" + name + "` | " : "`" + file + "`";
            Check.due("whether README.md has " + due.trim(), readme.contains(due) ? 1 : 0, 1);
        }
    }
}
