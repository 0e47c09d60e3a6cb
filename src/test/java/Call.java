import java.lang.reflect.InvocationTargetException;
import java.lang.reflect.Method;
import java.util.Arrays;

/** A call by name with its arguments, ints alone. */
record Call(String name, int... args) {

    /** Reads "move(0, 2)"; what stands behind the bracket does not matter. */
    static Call read(String row) {
        int open = row.indexOf('(');
        String inside = row.substring(open + 1, row.indexOf(')')).trim();
        int[] args = inside.isEmpty() ? new int[0]
                : Arrays.stream(inside.split(",")).map(String::trim).mapToInt(Integer::parseInt).toArray();
        return new Call(row.substring(0, open).trim(), args);
    }

    /** The answer as text: an exception is answered as throws.Name, no answer as "". */
    String on(Object target) {
        Class<?>[] kinds = new Class<?>[args.length];
        Arrays.fill(kinds, int.class);
        Object[] values = Arrays.stream(args).boxed().toArray();
        try {
            Method method = target.getClass().getDeclaredMethod(name, kinds);
            Object got = method.invoke(target, values);
            return got == null ? "" : got.toString();
        } catch (InvocationTargetException e) {
            return "throws." + e.getCause().getClass().getSimpleName();
        } catch (ReflectiveOperationException e) {
            throw new IllegalArgumentException("no call " + this, e);
        }
    }

    @Override
    public String toString() {
        String text = Arrays.toString(args);
        return name + "(" + text.substring(1, text.length() - 1) + ")";
    }
}
