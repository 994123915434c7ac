import java.io.IOException;
import java.lang.reflect.Method;
import java.lang.reflect.Modifier;
import java.net.URL;
import java.net.URLClassLoader;
import java.nio.file.Files;
import java.nio.file.Path;
import java.util.ArrayList;
import java.util.List;
import java.util.function.Supplier;
import java.util.regex.Matcher;
import java.util.regex.Pattern;
import javax.tools.ToolProvider;

/** README.md tells the truth: its examples answer what it says, and its tables name every call and every test. */
final class ReadmeTest {
    private static final Path README = Path.of("README.md");
    private static final Pattern TOLD = Pattern.compile("(x\\..*);\\s+// -> ([-\\w.]*\\w).*");

    public static void main(String[] args) {
        Cases.runAll(ReadmeTest.class);
    }

    static void everyExampleAnswersAsTold() throws Exception {
        List<List<String>> examples = examples();
        Due.same("examples", examples.size(), 3);
        for (int i = 0; i < examples.size(); i++) {
            List<String> told = new ArrayList<>();
            String name = "Example" + i;
            String[] got = answersOf(name, sourceOf(name, examples.get(i), told));
            Due.same(name + " tells answers", told.isEmpty(), false);
            for (int j = 0; j < told.size(); j++) {
                Due.same(name + ", answer " + j, got[j], told.get(j));
            }
        }
    }

    static void everyCallIsInTheTable() throws IOException {
        for (Method method : DrumMachine.class.getDeclaredMethods()) {
            if (Modifier.isPublic(method.getModifiers())) {
                Due.same(method.getName() + " has a row", lastColumnOf(method.getName()).equals("no row"), false);
            }
        }
    }

    static void everyCallsRowNamesWhatItThrows() throws IOException {
        for (Method method : DrumMachine.class.getDeclaredMethods()) {
            if (Modifier.isPublic(method.getModifiers())) {
                List<String> thrown = new ArrayList<>();
                for (Class<?> type : method.getExceptionTypes()) {
                    thrown.add(type.getSimpleName().replaceAll("Exception$", ""));
                }
                boolean sharesARow = method.getName().equals("outputs");
                String want = sharesARow ? "IndexOutOfBounds" : String.join(", ", thrown);
                Due.same("what " + method.getName() + " throws", lastColumnOf(method.getName()), want);
            }
        }
    }

    static void everyTestIsInTheTable() throws IOException {
        String text = Files.readString(README);
        try (var files = Files.newDirectoryStream(Path.of("src/test/java"), "*Test.java")) {
            for (Path file : files) {
                String name = file.getFileName().toString().replace(".java", "");
                Due.same(name + " has a row", text.contains("\n| " + name + " |"), true);
            }
        }
    }

    private static String lastColumnOf(String call) throws IOException {
        for (String line : Files.readAllLines(README)) {
            if (line.matches("\\|.*`" + call + "\\([a-z, ]*\\)`.*\\|")) {
                String[] columns = line.split("\\|");
                return columns[3].trim();
            }
        }
        return "no row";
    }

    private static List<List<String>> examples() throws IOException {
        List<List<String>> all = new ArrayList<>();
        List<String> open = null;
        for (String line : Files.readAllLines(README)) {
            if (line.equals("```java")) {
                open = new ArrayList<>();
                all.add(open);
            } else if (line.startsWith("```")) {
                open = null;
            } else if (open != null) {
                open.add(line);
            }
        }
        return all;
    }

    /** The example as a class that tells its answers, a line for each; what the text tells is added to the list. */
    private static String sourceOf(String name, List<String> example, List<String> told) {
        StringBuilder text = new StringBuilder();
        text.append("public final class ").append(name).append(" implements java.util.function.Supplier<String> {\n");
        text.append("public String get() {\nStringBuilder answers = new StringBuilder();\n");
        for (String line : example) {
            Matcher matcher = TOLD.matcher(line);
            if (matcher.matches()) {
                told.add(matcher.group(2));
                text.append("try { answers.append(").append(matcher.group(1)).append("); }\n");
                text.append("catch (RuntimeException e) {\n");
                text.append("answers.append(\"throws.\").append(e.getClass().getSimpleName()); }\n");
                text.append("answers.append('\\n');\n");
            } else {
                text.append(line).append('\n');
            }
        }
        return text.append("return answers.toString();\n}\n}\n").toString();
    }

    private static String[] answersOf(String name, String source) throws Exception {
        Path directory = Files.createTempDirectory("readme");
        Path file = directory.resolve(name + ".java");
        Files.writeString(file, source);
        int failed = ToolProvider.getSystemJavaCompiler().run(null, null, null, "-cp",
                System.getProperty("java.class.path"), "-d", directory.toString(), file.toString());
        Due.same("the compiler on " + name, failed, 0);
        URL[] places = {directory.toUri().toURL()};
        try (URLClassLoader loader = new URLClassLoader(places, ReadmeTest.class.getClassLoader())) {
            Object example = loader.loadClass(name).getDeclaredConstructor().newInstance();
            return ((Supplier<?>) example).get().toString().split("\n");
        } finally {
            Files.deleteIfExists(directory.resolve(name + ".class"));
            Files.delete(file);
            Files.delete(directory);
        }
    }
}
