import java.io.IOException;
import java.lang.reflect.Method;
import java.lang.reflect.Modifier;
import java.net.URL;
import java.net.URLClassLoader;
import java.nio.file.Files;
import java.nio.file.Path;
import java.util.ArrayList;
import java.util.List;
import java.util.regex.Matcher;
import java.util.regex.Pattern;
import javax.tools.ToolProvider;

// README's example compiles as it stands and answers as its comments say; README names each call and each test.
public final class BlankMatcherReadme {
    private static final Path README = Path.of("README.md");
    private static final Path TESTS = Path.of("src/test/java");
    private static final Path FOLDER = Path.of("build/readme");
    private static final Pattern ANSWERED = Pattern.compile("(x\\.\\w+\\(.*\\)); +// (.+)");
    private static final String THROWS = "throws ";

    public static void main(String[] args) throws IOException, ReflectiveOperationException {
        List<String> lines = Files.readAllLines(README);
        List<String> faults = new ArrayList<>(unnamed(String.join("\n", lines)));
        List<String> example = example(lines);
        long answered = example.stream().filter(line -> ANSWERED.matcher(line).matches()).count();
        if (answered == 0) {
            faults.add("README has no example with answers");
        }
        faults.addAll(wrongAnswers(example));
        faults.forEach(System.out::println);
        System.out.println(answered + " answers of README's example, " + faults.size() + " faults");
        System.exit(faults.isEmpty() ? 0 : 1);
    }

    private static List<String> unnamed(String readme) throws IOException {
        List<String> names = new ArrayList<>();
        for (Method method : BlankMatcher.class.getDeclaredMethods()) {
            if (Modifier.isPublic(method.getModifiers())) {
                names.add(method.getName());
            }
        }
        try (var files = Files.list(TESTS)) {
            files.forEach(file -> names.add(file.getFileName().toString().replace(".java", "")));
        }
        List<String> faults = new ArrayList<>();
        for (String name : names) {
            if (!readme.contains("`" + name + "`")) {
                faults.add("README does not name " + name);
            }
        }
        return faults;
    }

    private static List<String> example(List<String> lines) {
        int start = lines.indexOf("```java") + 1;
        List<String> behind = lines.subList(start, lines.size());
        return start == 0 ? List.of() : behind.subList(0, behind.indexOf("```"));
    }

    private static List<String> wrongAnswers(List<String> example) throws IOException, ReflectiveOperationException {
        Files.createDirectories(FOLDER);
        Path source = Files.write(FOLDER.resolve("Example.java"), program(example));
        int fault = ToolProvider.getSystemJavaCompiler().run(null, null, null, "--release", "17",
            "-cp", System.getProperty("java.class.path"), "-d", FOLDER.toString(), source.toString());
        if (fault != 0) {
            return List.of("README's example does not compile");
        }
        try (URLClassLoader loader = new URLClassLoader(new URL[] {FOLDER.toUri().toURL()})) {
            List<String> wrong = new ArrayList<>();
            loader.loadClass("Example").getMethod("run", List.class).invoke(null, wrong);
            return wrong;
        }
    }

    /** The example with a look at each answer; a line that tells none stays as it is. */
    private static List<String> program(List<String> example) {
        List<String> program = new ArrayList<>(List.of(
            "public final class Example {", "public static void run(java.util.List<String> wrong) {"));
        for (String line : example) {
            Matcher told = ANSWERED.matcher(line);
            program.add(told.matches() ? look(told.group(1), told.group(2)) : line);
        }
        program.addAll(List.of("}", "}"));
        return program;
    }

    private static String look(String call, String answer) {
        boolean refused = answer.startsWith(THROWS);
        String due = refused ? "\"" + answer.substring(THROWS.length()) + "\"" : "String.valueOf(" + answer + ")";
        return "{ String got; try { got = String.valueOf(" + call + "); }"
            + " catch (RuntimeException e) { got = e.getClass().getSimpleName(); }"
            + " if (!got.equals(" + due + ")) wrong.add(\"README: " + call + " answers \" + got); }";
    }
}
