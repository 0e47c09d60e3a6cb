import java.lang.reflect.InvocationTargetException;
import java.lang.reflect.Method;
import java.util.Arrays;

/**
 * Runs of calls that are written as text, one call a row: "move(0, 2) = 5" for an answer,
 * "find(3, 0)" for a call without one, "erase(0) ! State" for an exception
 * (Argument, Element or State).
 */
final class Script {
    private int rows = 0;
    private int wrong = 0;

    /** Calls a method that takes ints alone; an exception is answered as throws.Name, no answer as "". */
    static String answer(Object target, String name, int... args) {
        Class<?>[] kinds = new Class<?>[args.length];
        Arrays.fill(kinds, int.class);
        Object[] values = Arrays.stream(args).boxed().toArray();
        try {
            Method method = target.getClass().getDeclaredMethod(name, kinds);
            Object got = method.invoke(target, values);
            return got == null ? "" : got.toString();
        } catch (InvocationTargetException e) {
            return "throws." + e.getCause().getClass().getSimpleName();
        } catch (ReflectiveOperationException e) {
            throw new IllegalArgumentException("no call " + name + Arrays.toString(args), e);
        }
    }

    /** A run on a new object; the texts may hold several rows, one a line. */
    void run(String title, String... texts) {
        OwnerRings rings = new OwnerRings();
        int number = 0;
        for (String text : texts) {
            for (String row : text.split("\n")) {
                if (!row.isBlank()) {
                    number++;
                    check(rings, title + ", row " + number, row.trim());
                }
            }
        }
    }

    /** Tells how it went, and ends the program with 1 if an answer was wrong. */
    void end() {
        System.out.println(rows + " rows, " + wrong + " wrong");
        if (wrong != 0) {
            System.exit(1);
        }
    }

    private void check(OwnerRings rings, String where, String row) {
        int open = row.indexOf('(');
        int close = row.indexOf(')');
        String inside = row.substring(open + 1, close).trim();
        int[] args = inside.isEmpty() ? new int[0]
                : Arrays.stream(inside.split(",")).map(String::trim).mapToInt(Integer::parseInt).toArray();
        String got = answer(rings, row.substring(0, open), args);
        String want = due(row.substring(close + 1).trim());
        rows++;
        if (!got.equals(want)) {
            wrong++;
            System.out.println(where + ": " + row + " answered '" + got + "'");
        }
    }

    private static String due(String text) {
        if (text.startsWith("=")) {
            return text.substring(1).trim();
        }
        switch (text) {
            case "":
                return "";
            case "! Argument":
                return "throws.IllegalArgumentException";
            case "! Element":
                return "throws.NoSuchElementException";
            case "! State":
                return "throws.IllegalStateException";
            default:
                throw new IllegalArgumentException("not a row's end: " + text);
        }
    }
}
