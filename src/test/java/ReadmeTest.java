import java.io.IOException;
import java.lang.reflect.Method;
import java.lang.reflect.Modifier;
import java.net.URL;
import java.net.URLClassLoader;
import java.nio.file.DirectoryStream;
import java.nio.file.Files;
import java.nio.file.Path;
import java.util.ArrayList;
import java.util.LinkedHashMap;
import java.util.List;
import java.util.Map;
import java.util.function.BiConsumer;
import java.util.function.Supplier;
import java.util.regex.Matcher;
import java.util.regex.Pattern;
import javax.tools.ToolProvider;

/** The calls that README.md shows compile with the class and answer as README.md says. */
public final class ReadmeTest {
    private static final Path README = Path.of("README.md");
    private static final Path TESTS = Path.of("src/test/java");
    private static final String OBJECT = "Quizspool x = new Quizspool();";
    private static final Pattern SHOWN =
            Pattern.compile("(?<declared>\\w+ (?<name>\\w+) = )?(?<call>x\\..*\\));\\s+// (?<answer>.+?)(: .*)?");

    public static void main(String[] args) throws IOException, ReflectiveOperationException {
        String readme = Files.readString(README);
        List<String> shown = linesShown(readme);
        Map<String, String> answers = answersShown(shown);
        Checks.due("one object is shown", 1L, () -> shown.stream().filter(OBJECT::equals).count());
        Checks.due("there are calls, and at most 512", true,
                () -> answers.size() > 50 && answers.size() <= 512);
        showsEachMethod(answers.keySet().toString());
        namesEachTest(readme);
        run(shown, answers);
        Checks.finish("ReadmeTest");
    }

    private static List<String> linesShown(String readme) {
        List<String> lines = new ArrayList<>();
        Matcher block = Pattern.compile("(?ms)^```java\n(.*?)^```").matcher(readme);
        while (block.find()) {
            block.group(1).lines().filter(line -> !line.isBlank()).forEach(lines::add);
        }
        return lines;
    }

    /** What each line says that it answers, by the line and its place, for a call may stand there twice. */
    private static Map<String, String> answersShown(List<String> shown) {
        Map<String, String> answers = new LinkedHashMap<>();
        for (String line : shown) {
            if (!line.equals(OBJECT)) {
                Matcher matcher = SHOWN.matcher(line);
                boolean isTold = matcher.matches();
                Checks.due("README.md tells what this answers: " + line, true, () -> isTold);
                if (isTold) {
                    answers.put(key(answers.size(), line), matcher.group("answer"));
                }
            }
        }
        return answers;
    }

    private static String key(int place, String line) {
        return "call " + place + " of README.md, " + line.split(";")[0];
    }

    private static void showsEachMethod(String calls) {
        for (Method method : Quizspool.class.getDeclaredMethods()) {
            if (Modifier.isPublic(method.getModifiers())) {
                Checks.due("README.md shows " + method.getName(), true,
                        () -> calls.contains("x." + method.getName() + "("));
            }
        }
    }

    private static void namesEachTest(String readme) throws IOException {
        try (DirectoryStream<Path> files = Files.newDirectoryStream(TESTS, "*Test.java")) {
            for (Path file : files) {
                String name = file.getFileName().toString().replace(".java", "");
                Checks.due("README.md names " + name, true, () -> readme.contains("| " + name + " |"));
            }
        }
        Checks.due("README.md says how to run the tests", true, () -> readme.contains("\n    .ci/run\n"));
    }

    private static void run(List<String> shown, Map<String, String> answers)
            throws IOException, ReflectiveOperationException {
        Path made = Files.createTempDirectory("readme");
        Path source = Files.writeString(made.resolve("ReadmeCalls.java"), program(shown));
        int code = ToolProvider.getSystemJavaCompiler().run(null, null, null, "-Xlint:all", "-Werror",
                "-cp", System.getProperty("java.class.path"), "-d", made.toString(), source.toString());
        Checks.due("javac of what README.md shows", 0, () -> code);
        if (code == 0) {
            try (URLClassLoader loader = new URLClassLoader(new URL[] {made.toUri().toURL()})) {
                Method calls = loader.loadClass("ReadmeCalls").getMethod("run", BiConsumer.class);
                BiConsumer<String, Supplier<Object>> due = (key, call) ->
                        Checks.due(key, asTold(answers.get(key)), () -> asShown(call.get()));
                calls.invoke(null, due);
            }
        }
        delete(made);
    }

    private static void delete(Path directory) throws IOException {
        try (DirectoryStream<Path> files = Files.newDirectoryStream(directory)) {
            for (Path file : files) {
                Files.delete(file);
            }
        }
        Files.delete(directory);
    }

    private static String asTold(String answer) {
        return answer.replaceFirst("^throws ", "throws.");
    }

    private static Object asShown(Object answer) {
        return answer instanceof Character ? "'" + answer + "'" : answer;
    }

    /** The lines as they stand, which are compiled alone, and the same calls with their answers handed out. */
    private static String program(List<String> shown) {
        StringBuilder calls = new StringBuilder();
        int place = 0;
        for (String line : shown) {
            Matcher matcher = SHOWN.matcher(line);
            if (matcher.matches()) {
                String call = matcher.group("call");
                if (matcher.group("declared") != null) {
                    calls.append(matcher.group("declared")).append(call).append(";\n");
                    call = matcher.group("name");
                }
                calls.append("due.accept(\"").append(key(place, line)).append("\", () -> ").append(call)
                        .append(");\n");
                place++;
            } else {
                calls.append(line).append('\n');
            }
        }
        return "import java.util.function.*;\n"
                + "public final class ReadmeCalls {\n"
                + "public static void asItStands() {\n" + String.join("\n", shown) + "\n}\n"
                + "public static void run(BiConsumer<String, Supplier<Object>> due) {\n" + calls + "}\n}\n";
    }
}
