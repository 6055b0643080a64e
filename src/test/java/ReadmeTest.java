import java.io.ByteArrayOutputStream;
import java.io.PrintStream;
import java.lang.reflect.Method;
import java.lang.reflect.Modifier;
import java.net.URL;
import java.net.URLClassLoader;
import java.nio.charset.StandardCharsets;
import java.nio.file.Files;
import java.nio.file.Path;
import java.util.StringJoiner;
import java.util.regex.Matcher;
import java.util.regex.Pattern;
import javax.tools.ToolProvider;

/** README.md tells every method, and its example prints what it says. */
public final class ReadmeTest {
    public static void main(String[] args) throws Exception {
        String readme = Files.readString(Path.of("README.md"));
        everyMethodIsTold(readme);
        theExamplePrintsWhatItSays(readme);
        Due.end();
    }

    private static void everyMethodIsTold(String readme) {
        Due.sentence("README.md: how to use the class (its methods)");
        for (Method m : PathSteps.class.getDeclaredMethods()) {
            if (Modifier.isPublic(m.getModifiers())) {
                Matcher row = Pattern.compile("\\| `" + written(m) + "\\)` \\| .*\\|").matcher(readme);
                Due.is("a row for " + m.getName(), true, row.find());
                Due.is("an example of " + m.getName(), true, block(readme, "java").contains("x." + m.getName() + "("));
            }
        }
    }

    /** The beginning of the method's line in the document's face, as a pattern for any names. */
    private static String written(Method m) {
        StringJoiner parameters = new StringJoiner(", ");
        for (Class<?> type : m.getParameterTypes()) {
            parameters.add(type.getSimpleName() + " \\w+");
        }
        return m.getReturnType().getSimpleName() + " " + m.getName() + "\\(" + parameters;
    }

    private static void theExamplePrintsWhatItSays(String readme) throws Exception {
        Due.sentence("README.md: with an example");
        Due.same("the example", block(readme, "text"), printed(block(readme, "java")));
    }

    /** The first block of a language. */
    private static String block(String readme, String language) {
        Matcher m = Pattern.compile("(?s)```" + language + "\n(.*?)```").matcher(readme);
        return m.find() ? m.group(1) : "";
    }

    private static String printed(String example) throws Exception {
        Path folder = Files.createTempDirectory("readme");
        Path source = folder.resolve("Example.java");
        Path made = folder.resolve("Example.class");
        try {
            Files.writeString(source, "public final class Example { public static void main(String[] args) {\n"
                + example + "\n} }\n");
            int code = ToolProvider.getSystemJavaCompiler().run(null, null, null, "-d", folder.toString(),
                "-cp", System.getProperty("java.class.path"), source.toString());
            return code == 0 ? printedFrom(folder) : "javac ends with " + code;
        } finally {
            Files.deleteIfExists(made);
            Files.deleteIfExists(source);
            Files.deleteIfExists(folder);
        }
    }

    private static String printedFrom(Path folder) throws Exception {
        ByteArrayOutputStream all = new ByteArrayOutputStream();
        PrintStream before = System.out;
        try (URLClassLoader loader = new URLClassLoader(new URL[] {folder.toUri().toURL()});
            PrintStream out = new PrintStream(all, true, StandardCharsets.UTF_8)) {
            System.setOut(out);
            loader.loadClass("Example").getMethod("main", String[].class).invoke(null, (Object) new String[0]);
        } finally {
            System.setOut(before);
        }
        return all.toString(StandardCharsets.UTF_8).replace(System.lineSeparator(), "\n");
    }
}
