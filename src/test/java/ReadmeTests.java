import java.io.IOException;
import java.io.OutputStream;
import java.lang.reflect.Method;
import java.lang.reflect.Modifier;
import java.net.URL;
import java.net.URLClassLoader;
import java.nio.file.Files;
import java.nio.file.Path;
import java.util.ArrayList;
import java.util.List;
import java.util.regex.Matcher;
import java.util.regex.Pattern;
import javax.tools.ToolProvider;

/** The examples of README.md, compiled as they stand there: behind each // is what its line answers. */
final class ReadmeTests {
    private static final Pattern EXAMPLE = Pattern.compile("```java\n(.*?)```", Pattern.DOTALL);
    private static final Pattern ANSWERED =
        Pattern.compile("( *(?:int (\\w+) = )?)(x\\.\\w+\\(.*\\)); +// (-?\\d+)\\b.*");
    private static final Pattern NAMED = Pattern.compile("`(\\w+)`");

    private ReadmeTests() {
    }

    private static String readme() {
        try {
            return Files.readString(Path.of("README.md"));
        } catch (IOException e) {
            throw new IllegalStateException(e);
        }
    }

    private static List<String> examples() {
        List<String> found = new ArrayList<>();
        Matcher example = EXAMPLE.matcher(readme());
        while (example.find()) {
            found.add(example.group(1));
        }
        return found;
    }

    /** The same line, with what it answers told to the list of answers. */
    private static String telling(String line) {
        Matcher answered = ANSWERED.matcher(line);
        if (!answered.matches()) {
            return line;
        }
        String call = answered.group(3);
        String told = "tell(\"" + call + "\", " + call + ", " + answered.group(4) + "L)";
        return answered.group(2) == null ? told + ";" : answered.group(1) + "(int) " + told + ";";
    }

    private static String program(String example) {
        StringBuilder lines = new StringBuilder();
        for (String line : example.split("\n")) {
            lines.append(telling(line)).append('\n');
        }
        return "import java.util.ArrayList;\nimport java.util.List;\n"
            + "public final class ReadmeExample {\n"
            + "static final List<Object[]> told = new ArrayList<>();\n"
            + "static long tell(String call, long got, long due) {\n"
            + "told.add(new Object[] {call, due, got});\nreturn got;\n}\n"
            + "public static List<Object[]> run() {\n" + lines + "return told;\n}\n}\n";
    }

    /** Of each call of an example: its text, what README.md tells, what it answered. */
    private static List<?> told(String example) throws Exception {
        Path place = Files.createTempDirectory(Path.of("build"), "readme");
        Path source = place.resolve("ReadmeExample.java");
        Files.writeString(source, program(example));
        String classes = System.getProperty("java.class.path");
        int status = ToolProvider.getSystemJavaCompiler().run(
            null, OutputStream.nullOutputStream(), null, "-cp", classes, "-d", place.toString(), source.toString());
        if (status != 0) {
            return List.of();
        }
        try (URLClassLoader loader = new URLClassLoader(new URL[] {place.toUri().toURL()})) {
            return (List<?>) loader.loadClass("ReadmeExample").getMethod("run").invoke(null);
        }
    }

    static void examplesAnswerWhatTheyTell() throws Exception {
        List<String> examples = examples();
        Check.due("how many examples", 3, examples.size());
        for (String example : examples) {
            List<?> all = told(example);
            if (all.isEmpty()) {
                Check.wrong("  can't be compiled, or tells nothing: " + example);
            }
            for (Object one : all) {
                Object[] row = (Object[]) one;
                Check.due((String) row[0], (long) row[1], (long) row[2]);
            }
        }
    }

    /** But in a loop, no call of an example stands without its answer. */
    static void eachLineOfAnExampleTellsItsAnswer() {
        for (String example : examples()) {
            for (String line : example.split("\n")) {
                boolean call = line.contains(" = x.") || line.startsWith("x.");
                if (call && !ANSWERED.matcher(line).matches()) {
                    Check.wrong("  without an answer: " + line);
                }
            }
        }
    }

    static void eachCallIsNamed() {
        List<String> named = new ArrayList<>();
        Matcher name = NAMED.matcher(readme());
        while (name.find()) {
            named.add(name.group(1));
        }
        for (Method method : FarVoice.class.getDeclaredMethods()) {
            if (Modifier.isPublic(method.getModifiers()) && !named.contains(method.getName())) {
                Check.wrong("  README.md does not name " + method.getName());
            }
        }
    }

    static void eachTestClassIsNamed() throws IOException {
        try (var files = Files.list(Path.of("src/test/java"))) {
            for (Path file : (Iterable<Path>) files::iterator) {
                String name = file.getFileName().toString().replace(".java", "");
                if (name.endsWith("Tests") && !name.equals("AllTests") && !readme().contains("`" + name + "`")) {
                    Check.wrong("  README.md does not name " + name);
                }
            }
        }
    }
}
