import java.lang.reflect.Constructor;
import java.lang.reflect.Field;
import java.lang.reflect.Method;
import java.lang.reflect.Modifier;
import java.util.Arrays;
import java.util.TreeSet;

/** The public face: just what the document lists, with its constants and exceptions. */
public final class FaceTest {
    public static void main(String[] args) throws ReflectiveOperationException {
        Calls c = new Calls("face");
        Class<?> face = ContinuationCore.class;
        c.due("class", Modifier.toString(face.getModifiers()), "public final");
        c.due("fields", fields(face),
            "[COUNT=4, ENDED=2, FAULT=3, IDLE=0, KIND=2, NAME=1, NONE=-1, ROOM=5, RUNNING=1, ZERO=3]");
        c.due("constructors", constructors(face), "[public []]");
        c.due("methods", String.join("; ", methods(face)), String.join("; ", new TreeSet<>(Arrays.asList(
            "public clear[] [IllegalStateException]",
            "public given[int, int] [IllegalStateException, IllegalArgumentException]",
            "public global[int] [IllegalArgumentException, NoSuchElementException]",
            "public run[int] [IllegalStateException, IllegalArgumentException, ArithmeticException, UnsupportedOperationException]",
            "public sign[int] [IllegalStateException, IllegalArgumentException]",
            "public start[] [IllegalStateException]",
            "public state[int] [IllegalArgumentException]",
            "public stop[] [IllegalStateException]",
            "public text[long] [IllegalStateException, IllegalArgumentException]",
            "public whole[] []"))));
        Calls.end();
    }

    private static TreeSet<String> fields(Class<?> face) throws IllegalAccessException {
        TreeSet<String> all = new TreeSet<>();
        for (Field field : face.getDeclaredFields()) {
            if (!Modifier.isPrivate(field.getModifiers())) {
                all.add(field.getName() + "=" + field.getInt(null));
            }
        }
        return all;
    }

    private static TreeSet<String> constructors(Class<?> face) {
        TreeSet<String> all = new TreeSet<>();
        for (Constructor<?> made : face.getDeclaredConstructors()) {
            all.add(Modifier.toString(made.getModifiers()) + " " + names(made.getParameterTypes()));
        }
        return all;
    }

    private static TreeSet<String> methods(Class<?> face) {
        TreeSet<String> all = new TreeSet<>();
        for (Method method : face.getDeclaredMethods()) {
            if (!Modifier.isPrivate(method.getModifiers())) {
                all.add(Modifier.toString(method.getModifiers()) + " " + method.getName() + names(method.getParameterTypes())
                    + " " + names(method.getExceptionTypes()));
            }
        }
        return all;
    }

    private static String names(Class<?>[] types) {
        return Arrays.toString(Arrays.stream(types).map(Class::getSimpleName).toArray());
    }
}
