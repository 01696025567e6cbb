import java.lang.reflect.Constructor;
import java.lang.reflect.Field;
import java.lang.reflect.Method;
import java.lang.reflect.Modifier;
import java.util.Set;
import java.util.TreeSet;

/** The class has the document's public face, whole, and nothing else that is not private. */
public final class FaceTest {
    private static final Set<String> FACE = Set.of(
        "boolean type(int, int)", "int line()", "int lines()", "void begin(int)", "boolean feed(int)",
        "boolean step()", "int value(int)", "int find(int)", "int shown(int, int)", "int prove(int)");

    /** The method without the names of its parameters. */
    static String told(Method method) {
        StringBuilder text = new StringBuilder(method.getReturnType().getSimpleName());
        text.append(' ').append(method.getName()).append('(');
        for (Class<?> type : method.getParameterTypes()) {
            text.append(text.charAt(text.length() - 1) == '(' ? "" : ", ").append(type.getSimpleName());
        }
        return text.append(')').toString();
    }

    public static void main(String[] args) {
        Checks checks = new Checks();
        Set<String> open = new TreeSet<>();
        for (Method method : WordChecker.class.getDeclaredMethods()) {
            if (Modifier.isPublic(method.getModifiers()) && !Modifier.isStatic(method.getModifiers())) {
                open.add(told(method));
            } else {
                checks.due(told(method) + " is private", Modifier.isPrivate(method.getModifiers()), true);
                checks.due(told(method) + " bears no public name",
                    FACE.stream().anyMatch(face -> face.contains(" " + method.getName() + "(")), false);
            }
        }
        checks.due("public methods " + open, open.equals(FACE), true);
        for (Field field : WordChecker.class.getDeclaredFields()) {
            checks.due(field.getName() + " is private", Modifier.isPrivate(field.getModifiers()), true);
        }
        Constructor<?>[] constructors = WordChecker.class.getDeclaredConstructors();
        checks.due("constructors", constructors.length, 1);
        checks.due("its parameters", constructors[0].getParameterCount(), 0);
        checks.due("it is public", Modifier.isPublic(constructors[0].getModifiers()), true);
        int modifiers = WordChecker.class.getModifiers();
        checks.due("public and final", Modifier.isPublic(modifiers) && Modifier.isFinal(modifiers), true);
        checks.end();
    }
}
