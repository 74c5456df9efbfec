import java.io.File;
import java.io.IOException;
import java.lang.reflect.Method;
import java.lang.reflect.Modifier;
import java.net.URL;
import java.net.URLClassLoader;
import java.nio.file.Files;
import java.nio.file.Path;
import java.util.ArrayList;
import java.util.List;
import java.util.Map;
import java.util.regex.Matcher;
import java.util.regex.Pattern;
import javax.tools.ToolProvider;

/**
 * Holds README.md against the class: its example is compiled as it stands and must answer what it says behind each
 * call; each call of the face and each test of the project must be named.
 */
public final class ReadmeTest {
    private static final Path README = Path.of("README.md"), TESTS = Path.of("src/test/java");
    private static final Pattern EXAMPLE = Pattern.compile("(?s)```java\n(.*?)```");
    // what is declared, the call, the answer that the comment begins with
    private static final Pattern CALL =
            Pattern.compile("(?:(?:int|long) (\\w+) = )?(east\\.\\w+\\(.*?\\)); +// (-?\\d+|[A-Z]{3,})(?::? .*)?");
    private static final Map<String, Integer> NAMES = Map.of("UNKNOWN", EastNearly.UNKNOWN, "BAD", EastNearly.BAD,
            "LATE", EastNearly.LATE, "FULL", EastNearly.FULL, "NONE", EastNearly.NONE);

    private final Due due = new Due();
    private final List<String> calls = new ArrayList<>();
    private final List<Long> told = new ArrayList<>();

    /** The example as a class whose method gives back the answers of its calls, in their order. */
    private String asClass(String example) {
        StringBuilder source = new StringBuilder("public final class Example {\n"
                + "public static java.util.List<Long> answers() {\n"
                + "java.util.List<Long> answers = new java.util.ArrayList<>();\n");
        for (String line : example.split("\n")) {
            Matcher call = CALL.matcher(line);
            boolean answers = call.matches();
            boolean plain = line.isEmpty() || line.startsWith("// ") || line.startsWith("EastNearly east = ");
            due.holds("README.md tells no answer in: " + line, answers || plain);
            source.append(answers && call.group(1) == null ? "" : line + "\n");
            if (!answers) continue;
            String answer = call.group(1) == null ? call.group(2) : call.group(1);
            source.append("answers.add((long) ").append(answer).append(");\n");
            calls.add("README.md: " + call.group(2));
            told.add(number(call.group(3)));
        }
        return source.append("return answers;\n}\n}\n").toString();
    }

    private static long number(String word) {
        return NAMES.containsKey(word) ? NAMES.get(word) : Long.parseLong(word);
    }

    private void runExample(String readme, Path folder) throws IOException, ReflectiveOperationException {
        Matcher example = EXAMPLE.matcher(readme);
        due.holds("README.md has no example", example.find());
        Path file = Files.writeString(folder.resolve("Example.java"), asClass(example.group(1)));
        int ended = ToolProvider.getSystemJavaCompiler().run(null, null, null, "-cp",
                System.getProperty("java.class.path"), "-d", folder.toString(), file.toString());
        due.is("the compiler, of README.md's example,", ended, 0);
        if (ended != 0) return;
        try (URLClassLoader loader = new URLClassLoader(new URL[] {folder.toUri().toURL()})) {
            List<?> answers = (List<?>) loader.loadClass("Example").getMethod("answers").invoke(null);
            due.holds("README.md's example has calls", calls.size() > 0);
            due.is("answers of README.md's example", answers.size(), calls.size());
            for (int i = 0; i < calls.size(); i++) due.is(calls.get(i), (Long) answers.get(i), told.get(i));
        }
    }

    private void namesAll(String readme) throws IOException {
        for (Method method : EastNearly.class.getDeclaredMethods()) {
            String name = method.getName();
            boolean ofTheFace = Modifier.isPublic(method.getModifiers());
            due.holds("README.md does not name " + name, !ofTheFace || readme.contains("`" + name + "`"));
        }
        for (String name : NAMES.keySet()) due.holds("README.md does not name " + name, readme.contains("`" + name));
        try (var files = Files.list(TESTS)) {
            for (Path file : (Iterable<Path>) files::iterator) {
                String name = file.getFileName().toString().replace(".java", "");
                boolean named = readme.contains("| `" + name + "` |");
                due.holds("README.md does not tell of " + name, !name.endsWith("Test") || named);
            }
        }
    }

    private static void remove(Path folder) throws IOException {
        File[] files = folder.toFile().listFiles();
        if (files != null) for (File file : files) Files.delete(file.toPath());
        Files.delete(folder);
    }

    public static void main(String[] args) throws IOException, ReflectiveOperationException {
        ReadmeTest test = new ReadmeTest();
        String readme = Files.readString(README);
        Path folder = Files.createTempDirectory("readme");
        try {
            test.runExample(readme, folder);
        } finally {
            remove(folder);
        }
        test.namesAll(readme);
        test.due.end("ReadmeTest");
    }
}
