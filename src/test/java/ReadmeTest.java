import java.io.IOException;
import java.lang.reflect.Field;
import java.lang.reflect.Method;
import java.lang.reflect.Modifier;
import java.net.URL;
import java.net.URLClassLoader;
import java.nio.file.Files;
import java.nio.file.Path;
import java.util.ArrayList;
import java.util.List;
import java.util.regex.Matcher;
import java.util.regex.Pattern;
import java.util.stream.Collectors;
import java.util.stream.Stream;
import javax.tools.ToolProvider;

/** README.md: its examples can be compiled and answer what they say, and it names every call and every test. */
public final class ReadmeTest {
    private static final Path README = Path.of("README.md"), TESTS = Path.of("src/test/java");
    private static final Pattern EXAMPLE = Pattern.compile("```java\n(.*?)```", Pattern.DOTALL);
    /** A call whose answer is told behind it, and that may be kept in a variable. */
    private static final Pattern ANSWERED = Pattern.compile("(?:int (\\w+) = )?(office\\..*\\));\\s*// (-?\\d+|[A-Z_]+): .*");
    private static final Pattern HAS_COMMENT = Pattern.compile(".*//.*");
    private static final Checks checks = new Checks();

    private ReadmeTest() {
    }

    public static void main(String[] args) throws IOException, ReflectiveOperationException {
        String readme = Files.readString(README);
        namesTheFace(readme);
        namesTheTests(readme);
        List<String> examples = examples(readme);
        checks.holds("there are examples", examples.size() > 2);
        runAll(examples);
        checks.close();
    }

    private static void namesTheFace(String readme) {
        for (Method method : ClimbPermits.class.getDeclaredMethods()) {
            if (Modifier.isPublic(method.getModifiers())) {
                isNamed(readme, method.getName());
            }
        }
        for (Field field : ClimbPermits.class.getDeclaredFields()) {
            if (Modifier.isPublic(field.getModifiers())) {
                isNamed(readme, field.getName());
            }
        }
    }

    private static void namesTheTests(String readme) throws IOException {
        try (Stream<Path> files = Files.list(TESTS)) {
            List<String> names = files.map(file -> file.getFileName().toString().replace(".java", ""))
                    .filter(name -> name.endsWith("Test")).collect(Collectors.toList());
            names.forEach(name -> isNamed(readme, name));
            Matcher rows = Pattern.compile("\\| `(\\w+Test)` \\|").matcher(readme);
            while (rows.find()) {
                checks.holds("there is a test " + rows.group(1), names.contains(rows.group(1)));
            }
        }
    }

    private static void isNamed(String readme, String name) {
        checks.holds("README.md names " + name, readme.contains("`" + name + "`"));
    }

    private static List<String> examples(String readme) {
        List<String> found = new ArrayList<>();
        Matcher matcher = EXAMPLE.matcher(readme);
        while (matcher.find()) {
            found.add(matcher.group(1));
        }
        return found;
    }

    /** Each example becomes a method, which adds what each call answered and what was told behind it. */
    private static String program(List<String> examples) {
        StringBuilder text = new StringBuilder("public final class Examples {\n");
        for (int i = 0; i < examples.size(); i++) {
            text.append("    public static void example").append(i).append("(java.util.List<Integer> answers) {\n");
            examples.get(i).lines().forEach(line -> text.append("        ").append(comparing(line)).append('\n'));
            text.append("    }\n");
        }
        return text.append("}\n").toString();
    }

    private static String comparing(String line) {
        Matcher answered = ANSWERED.matcher(line);
        if (!answered.matches()) {
            checks.holds("\"" + line + "\" tells an answer, or has no comment", !HAS_COMMENT.matcher(line).matches());
            return line;
        }
        String due = answered.group(3).matches("[A-Z_]+") ? "ClimbPermits." + answered.group(3) : answered.group(3);
        if (answered.group(1) == null) {
            return "answers.add(" + answered.group(2) + "); answers.add(" + due + ");";
        }
        return "int " + answered.group(1) + " = " + answered.group(2) + "; answers.add(" + answered.group(1)
                + "); answers.add(" + due + ");";
    }

    private static void runAll(List<String> examples) throws IOException, ReflectiveOperationException {
        Path folder = Files.createTempDirectory("readme");
        Path source = folder.resolve("Examples.java");
        Files.writeString(source, program(examples));
        int status = ToolProvider.getSystemJavaCompiler().run(null, null, null, "-d", folder.toString(),
                "-cp", System.getProperty("java.class.path"), source.toString());
        checks.due("compiling the examples", status, 0);
        if (status == 0) {
            try (URLClassLoader loader = new URLClassLoader(new URL[] {folder.toUri().toURL()})) {
                Class<?> program = loader.loadClass("Examples");
                for (int i = 0; i < examples.size(); i++) {
                    run(i, examples.get(i), program.getMethod("example" + i, List.class));
                }
            }
        }
        for (String name : List.of("Examples.java", "Examples.class", "")) {
            Files.deleteIfExists(folder.resolve(name));
        }
    }

    private static void run(int number, String example, Method method) throws ReflectiveOperationException {
        List<Integer> answers = new ArrayList<>();
        method.invoke(null, answers);
        List<String> lines = example.lines().filter(line -> ANSWERED.matcher(line).matches()).collect(Collectors.toList());
        checks.due("answers of example " + number, answers.size(), 2 * lines.size());
        for (int i = 0; i < lines.size() && 2 * i + 1 < answers.size(); i++) {
            checks.due("README.md: " + lines.get(i), answers.get(2 * i), answers.get(2 * i + 1));
        }
    }
}
