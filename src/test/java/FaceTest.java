import java.lang.reflect.Constructor;
import java.lang.reflect.Field;
import java.lang.reflect.Method;
import java.lang.reflect.Modifier;
import java.util.ArrayList;
import java.util.Arrays;
import java.util.List;
import java.util.NoSuchElementException;
import java.util.TreeSet;

/** The public face: what is visible is what the document shows, with the exceptions it names in its order. */
public final class FaceTest {
    private static final String FACE = """
        type(1) A S
        set(4) A S
        store(4) A E S
        find(2) void E
        seek(3) A E
        move(2) A E
        scan(3) A E
        current(2) A
        get(1) E A
        modify(2) void E A S
        connect(1) void A E S
        disconnect(1) void A E S
        reconnect(1) void A E S
        erase(1) A E S
        members(1) A E
        owner(2) A E
        keep(0)
        rollBack(0)
        count(0)
        """;

    public static void main(String[] args) {
        List<String> wrong = new ArrayList<>();
        if (!Modifier.isPublic(OwnerRings.class.getModifiers()) || !Modifier.isFinal(OwnerRings.class.getModifiers())) {
            wrong.add("the class is not public and final");
        }
        TreeSet<String> due = new TreeSet<>(FACE.lines().toList());
        TreeSet<String> got = new TreeSet<>();
        for (Method method : OwnerRings.class.getDeclaredMethods()) {
            if (!Modifier.isPrivate(method.getModifiers())) {
                got.add(faceOf(method));
            } else if (FACE.lines().anyMatch(row -> row.startsWith(method.getName() + "("))) {
                wrong.add("a private method bears a public name: " + method.getName());
            }
        }
        if (!due.equals(got)) {
            wrong.add("the face is " + got + ", due is " + due);
        }
        for (Field field : OwnerRings.class.getDeclaredFields()) {
            if (!Modifier.isPrivate(field.getModifiers())) {
                wrong.add("a field is visible: " + field.getName());
            }
        }
        Constructor<?>[] constructors = OwnerRings.class.getDeclaredConstructors();
        if (constructors.length != 1 || constructors[0].getParameterCount() != 0
                || !Modifier.isPublic(constructors[0].getModifiers())) {
            wrong.add("the constructors are " + Arrays.toString(constructors));
        }
        wrong.forEach(System.out::println);
        System.out.println("the face has " + wrong.size() + " faults");
        if (!wrong.isEmpty()) {
            System.exit(1);
        }
    }

    private static String faceOf(Method method) {
        StringBuilder text = new StringBuilder(method.getName());
        boolean intsAlone = Arrays.stream(method.getParameterTypes()).allMatch(t -> t == int.class);
        text.append('(').append(intsAlone ? method.getParameterCount() : "other").append(')');
        if (method.getReturnType() != int.class) {
            text.append(' ').append(method.getReturnType().getName());
        }
        if (!Modifier.isPublic(method.getModifiers()) || Modifier.isStatic(method.getModifiers())) {
            text.append(" not a public method of the object");
        }
        for (Class<?> exception : method.getExceptionTypes()) {
            text.append(' ').append(letterOf(exception));
        }
        return text.toString();
    }

    private static String letterOf(Class<?> exception) {
        return exception == IllegalArgumentException.class ? "A"
                : exception == NoSuchElementException.class ? "E"
                : exception == IllegalStateException.class ? "S" : exception.getName();
    }
}
