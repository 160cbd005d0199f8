import java.lang.reflect.Constructor;
import java.lang.reflect.Executable;
import java.lang.reflect.Field;
import java.lang.reflect.Method;
import java.lang.reflect.Modifier;
import java.util.Set;
import java.util.TreeSet;

/** The public face is the document's one, and nothing beside it is to be seen (rule 1 of LANGUAGE.md). */
public final class FaceTest {
    private static final String A = " throws IllegalArgumentException";
    private static final String S = " throws IllegalStateException";
    private static final String I = " throws IndexOutOfBoundsException";
    private static final Set<String> DUE = Set.of(
            "int rule(int, int, int, int, int, int)" + A + ", IllegalStateException",
            "int goes(int, int)" + I, "int about(int, int)" + I, "boolean swaps(int, int)" + I,
            "int ring(int)" + I, "int undo(int)" + I, "int at(int)" + I, "int find(int)" + I, "int set(int)" + A,
            "int peal()" + S, "int add(int, int)" + I + ", IllegalStateException", "int play(int)" + I,
            "int told(int, int)" + I, "int count(int)" + I, "int steps(int)" + A, "int next(int)" + A,
            "int reach()", "int farthest()", "double mean()", "long digest()");

    public static void main(String[] args) {
        Class<?> face = ShutterRinging.class;
        Check.due("public and final", Modifier.PUBLIC | Modifier.FINAL, face.getModifiers());
        Set<String> shown = new TreeSet<>();
        Set<String> publicNames = new TreeSet<>();
        Set<String> hiddenNames = new TreeSet<>();
        for (Method method : face.getDeclaredMethods()) {
            if (Modifier.isPrivate(method.getModifiers())) {
                hiddenNames.add(method.getName());
            } else if (!method.isSynthetic()) {
                Check.due("only public of " + method, Modifier.PUBLIC, method.getModifiers());
                shown.add(method.getReturnType() + " " + method.getName() + signature(method));
                publicNames.add(method.getName());
            }
        }
        Check.due("methods", new TreeSet<>(DUE), shown);
        hiddenNames.retainAll(publicNames);
        Check.due("private methods with a public name", new TreeSet<String>(), hiddenNames);
        Constructor<?>[] constructors = face.getDeclaredConstructors();
        Check.due("constructors", 1, constructors.length);
        Check.due("constructor", "()", signature(constructors[0]));
        Check.due("public constructor", Modifier.PUBLIC, constructors[0].getModifiers());
        for (Field field : face.getDeclaredFields()) {
            Check.due("private " + field, true, Modifier.isPrivate(field.getModifiers()));
        }
        for (Class<?> inside : face.getDeclaredClasses()) {
            Check.due("static " + inside, true, Modifier.isStatic(inside.getModifiers()));
            Check.due("not public " + inside, false, Modifier.isPublic(inside.getModifiers()));
        }
        Check.end();
    }

    private static String signature(Executable call) {
        StringBuilder text = new StringBuilder("(");
        for (Class<?> type : call.getParameterTypes()) {
            text.append(text.length() > 1 ? ", " : "").append(type.getSimpleName());
        }
        text.append(")");
        String before = " throws ";
        for (Class<?> type : call.getExceptionTypes()) {
            text.append(before).append(type.getSimpleName());
            before = ", ";
        }
        return text.toString();
    }
}
