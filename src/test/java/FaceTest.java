import java.lang.reflect.Constructor;
import java.lang.reflect.Field;
import java.lang.reflect.Method;
import java.lang.reflect.Modifier;
import java.util.ArrayList;
import java.util.Arrays;
import java.util.Collections;
import java.util.List;

/** The class has the document's face and nothing else that can be seen from outside. */
final class FaceTest {
    private static final String INDEX = "IndexOutOfBoundsException";
    private static final String ARGUMENT = "IllegalArgumentException";
    private static final String STATE = "IllegalStateException";

    private static final String[] METHODS = {
        "void word(int, long, boolean) " + INDEX + " " + ARGUMENT,
        "boolean flip(int, int, int) " + INDEX,
        "int card(long, boolean) " + ARGUMENT + " " + STATE,
        "int line(int, int, int, int) " + ARGUMENT + " " + STATE,
        "void reserve(int) " + INDEX,
        "void clear()",
        "int assemble(boolean) " + STATE + " UnsupportedOperationException",
        "int place(int) " + INDEX,
        "void start(int) " + ARGUMENT,
        "int run(int) " + ARGUMENT + " " + STATE,
        "int fault()",
        "long time()",
        "long register(int) " + INDEX,
        "boolean sign(int) " + INDEX,
        "int next()",
        "long get(int) " + INDEX,
        "long output(int) " + INDEX,
        "int outputs()",
    };

    public static void main(String[] args) {
        List<String> want = new ArrayList<>(Arrays.asList(METHODS));
        List<String> got = new ArrayList<>();
        for (Method method : DrumMachine.class.getDeclaredMethods()) {
            if (!Modifier.isPrivate(method.getModifiers())) {
                got.add(described(method));
            }
        }
        Collections.sort(want);
        Collections.sort(got);
        Due.same("the methods", String.join("; ", got), String.join("; ", want));
        Due.same("constructors", DrumMachine.class.getDeclaredConstructors().length, 1);
        for (Constructor<?> constructor : DrumMachine.class.getDeclaredConstructors()) {
            Due.same("the constructor is public", Modifier.isPublic(constructor.getModifiers()), true);
            Due.same("its parameters", constructor.getParameterCount(), 0);
        }
        for (Field field : DrumMachine.class.getDeclaredFields()) {
            Due.same("the field " + field.getName() + " is private", Modifier.isPrivate(field.getModifiers()), true);
        }
        Due.same("the class is public", Modifier.isPublic(DrumMachine.class.getModifiers()), true);
        Due.same("the class is final", Modifier.isFinal(DrumMachine.class.getModifiers()), true);
        Due.end();
    }

    private static String described(Method method) {
        List<String> parameters = new ArrayList<>();
        for (Class<?> type : method.getParameterTypes()) {
            parameters.add(type.getSimpleName());
        }
        StringBuilder text = new StringBuilder();
        text.append(method.getReturnType().getSimpleName()).append(' ').append(method.getName());
        text.append('(').append(String.join(", ", parameters)).append(')');
        for (Class<?> type : method.getExceptionTypes()) {
            text.append(' ').append(type.getSimpleName());
        }
        return text.toString();
    }
}
