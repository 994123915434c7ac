import java.io.IOException;
import java.lang.reflect.Field;
import java.lang.reflect.Method;
import java.lang.reflect.Modifier;
import java.nio.file.Files;
import java.nio.file.Path;
import java.util.ArrayList;
import java.util.Arrays;
import java.util.HashSet;
import java.util.List;
import java.util.Set;
import java.util.regex.Matcher;
import java.util.regex.Pattern;

/** Rules of LANGUAGE.md that can be seen in the class or in its text: a method for each. */
final class LanguageTest {
    private static final Path SOURCE = Path.of("src/main/java/DrumMachine.java");
    private static final Set<String> EXCEPTIONS = new HashSet<>(Arrays.asList(
            "IllegalStateException", "IllegalArgumentException", "IndexOutOfBoundsException", "ArithmeticException",
            "UnsupportedOperationException", "NoSuchElementException", "RuntimeException"));

    public static void main(String[] args) {
        Cases.runAll(LanguageTest.class);
    }

    private static List<Class<?>> allClasses() {
        List<Class<?>> all = new ArrayList<>();
        all.add(DrumMachine.class);
        all.addAll(Arrays.asList(DrumMachine.class.getDeclaredClasses()));
        return all;
    }

    private static List<String> lines(Path file) {
        try {
            return Files.readAllLines(file);
        } catch (IOException e) {
            throw new IllegalStateException("the program's text can't be read", e);
        }
    }

    /** The text without what stands in comments and quotes. */
    private static String code() {
        String text = String.join("\n", lines(SOURCE));
        return text.replaceAll("(?s)/\\*.*?\\*/", "").replaceAll("//[^\n]*", "").replaceAll("\"[^\"\n]*\"", "\"\"");
    }

    private static List<String> found(String pattern) {
        Matcher matcher = Pattern.compile(pattern).matcher(code());
        List<String> all = new ArrayList<>();
        while (matcher.find()) {
            all.add(matcher.group(matcher.groupCount()));
        }
        return all;
    }

    static void rule1ClassesInsideArePrivateAndStatic() {
        for (Class<?> inside : DrumMachine.class.getDeclaredClasses()) {
            int modifiers = inside.getModifiers();
            Due.same(inside.getSimpleName() + " is static", Modifier.isStatic(modifiers), true);
            Due.same(inside.getSimpleName() + " is seen", Modifier.isPublic(modifiers), false);
            Due.same(inside.getSimpleName() + " has classes", inside.getDeclaredClasses().length, 0);
        }
    }

    static void rule1NoOtherMethodBearsANameOfTheFace() {
        Set<String> face = new HashSet<>();
        for (Method method : DrumMachine.class.getMethods()) {
            face.add(method.getName());
        }
        for (Class<?> one : allClasses()) {
            for (Method method : one.getDeclaredMethods()) {
                boolean ofFace = one == DrumMachine.class && Modifier.isPublic(method.getModifiers());
                Due.same(one.getSimpleName() + "." + method.getName(), !ofFace && face.contains(method.getName()),
                        false);
            }
        }
    }

    static void rule3ArraysAreOfNumbers() {
        for (Class<?> one : allClasses()) {
            for (Field field : one.getDeclaredFields()) {
                Class<?> type = field.getType();
                boolean fits = type.isPrimitive() || allClasses().contains(type)
                        || type.isArray() && type.getComponentType().isPrimitive();
                Due.same(one.getSimpleName() + "." + field.getName() + " has a type that fits", fits, true);
            }
        }
    }

    static void rule4OnlyTheLibraryThatIsListed() {
        Due.same("imports", found("import ([^;]*);").toString(), "[java.util.Arrays]");
        for (String name : found("\\bArrays\\.(\\w+)")) {
            Due.same("Arrays." + name, name, "fill");
        }
        for (String name : found("\\bMath\\.(\\w+)")) {
            Due.same("Math." + name + " is one over whole numbers", name.equals("floorDiv") || name.equals("floorMod"),
                    true);
        }
        Due.same("other classes of the library", found("\\b(System|Integer|Long|List|String|Objects)\\.").toString(),
                "[]");
    }

    static void rule5StaticFieldsAreFinalNumbers() {
        for (Class<?> one : allClasses()) {
            for (Field field : one.getDeclaredFields()) {
                if (Modifier.isStatic(field.getModifiers())) {
                    String name = one.getSimpleName() + "." + field.getName();
                    Due.same(name + " is final", Modifier.isFinal(field.getModifiers()), true);
                    Due.same(name + " is a number", field.getType().isPrimitive(), true);
                }
            }
        }
        Due.same("static blocks", found("\\bstatic\\s*\\{").size(), 0);
    }

    static void rule6OnlyTheExceptionsThatAreListed() {
        int seen = 0;
        for (String name : found("\\bthrow\\s+new\\s+(\\w+)")) {
            Due.same(name + " is listed", EXCEPTIONS.contains(name), true);
            seen++;
        }
        Due.same("every throw makes a new one", found("\\bthrow\\b").size(), seen);
        String[] words = {"try", "finally", "synchronized", "assert", "instanceof", "->", "::", "null"};
        for (String word : words) {
            String pattern = Character.isLetter(word.charAt(0)) ? "\\b" + word + "\\b" : word;
            Due.same(word, found(pattern).size(), 0);
        }
    }

    static void rule9LoopsAreCounted() {
        Due.same("while and do", found("\\b(while|do)\\b").size(), 0);
        Due.same("for without a bound", found("for\\s*\\([^;]*;\\s*;").size(), 0);
    }

    static void rule11MethodsHaveFewParameters() {
        for (Class<?> one : allClasses()) {
            for (Method method : one.getDeclaredMethods()) {
                String name = one.getSimpleName() + "." + method.getName();
                Due.same(name + " has seven at most", method.getParameterCount() <= 7, true);
            }
        }
    }

    static void rule11MethodsAreShort() {
        int start = 0;
        List<String> text = lines(SOURCE);
        for (int i = 0; i < text.size(); i++) {
            String line = text.get(i);
            if (line.matches("( {4}| {8})(public|private|static|boolean|int|long|void|[A-Z]\\w*\\().*[{,(]")
                    && !line.contains(" class ")) {
                start = i;
            }
            if (line.matches("( {4}| {8})}")) {
                Due.same("the method that ends in line " + (i + 1) + " is short", i - start < 60, true);
            }
        }
    }

    static void rule11FewClassesAndFields() {
        Due.same("classes", allClasses().size() <= 12, true);
        for (Class<?> one : allClasses()) {
            int fields = 0;
            for (Field field : one.getDeclaredFields()) {
                fields += Modifier.isStatic(field.getModifiers()) ? 0 : 1;
            }
            Due.same(one.getSimpleName() + " has few fields", fields <= 20, true);
        }
    }

    static void rule12NothingIsMadeButInConstructors() {
        List<String> text = lines(SOURCE);
        boolean inConstructor = false;
        for (int i = 0; i < text.size(); i++) {
            String line = text.get(i);
            if (line.matches(" {4,8}(public )?[A-Z]\\w*\\(.*\\) \\{")) {
                inConstructor = true;
            } else if (line.matches(" {4,8}}")) {
                inConstructor = false;
            }
            boolean makes = line.matches(".*\\bnew\\b.*") && !line.matches(".*\\bthrow new\\b.*");
            Due.same("line " + (i + 1) + " makes something outside a constructor", makes && !inConstructor, false);
        }
    }
}
