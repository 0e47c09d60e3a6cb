/** Promises 1 to 3: a new object, type, set. */
public final class DeclaringTest {
    private static final Script SCRIPT = new Script();

    public static void main(String[] args) {
        newObject();
        types();
        sets();
        ordersByFields();
        closedForeverByStore();
        SCRIPT.end();
    }

    private static void newObject() {
        SCRIPT.run("promise 1: nothing is declared and nothing is there", """
            count() = 0
            current(0, 0) = 0
            current(1, 0) ! Argument
            current(2, 0) ! Argument
            store(0, 1, 1, 1) ! Argument
            set(0, 1, 0, 0) ! Argument
            seek(0, 0, 0) ! Argument
            move(0, 0) ! Argument
            scan(0, 0, 0) ! Argument
            members(0) ! Argument
            owner(0, 1) ! Argument
            connect(0) ! Argument
            disconnect(0) ! Argument
            reconnect(0) ! Argument
            find(0, 0) ! Element
            find(1, 0) ! Element
            get(0) ! Element
            modify(0, 0) ! Element
            erase(0) ! Element
            keep() = 0
            rollBack() = 0
            type(1) = 0
            type(1) = 1
            set(0, 1, 0, 0) = 0
            current(1, 1) = 0
            current(2, 0) = 0
            store(0, 1, 1, 1) = 1
            """);
    }

    private static void types() {
        SCRIPT.run("promise 2: fields are 1 to 3, types at most 4", """
            type(0) ! Argument
            type(4) ! Argument
            type(-1) ! Argument
            type(-2147483648) ! Argument
            type(2147483647) ! Argument
            type(1) = 0
            type(2) = 1
            type(3) = 2
            type(3) = 3
            type(3) ! State
            type(4) ! Argument
            store(0, 5, 6, 7) = 1
            get(0) = 5
            get(1) ! Argument
            store(1, 5, 6, 7) = 2
            get(1) = 6
            get(2) ! Argument
            store(2, 5, 6, 7) = 3
            get(2) = 7
            get(3) ! Argument
            get(-1) ! Argument
            """);
    }

    private static void sets() {
        SCRIPT.run("promise 3: types, orders, classes; sets at most 5", """
            type(3) = 0
            type(3) = 1
            set(0, 2, 0, 0) ! Argument
            set(2, 0, 0, 0) ! Argument
            set(-1, 0, 0, 0) ! Argument
            set(0, -1, 0, 0) ! Argument
            set(0, 0, 0, 0) ! Argument
            set(1, 1, 0, 0) ! Argument
            set(0, 1, -1, 0) ! Argument
            set(0, 1, 4, 0) ! Argument
            set(0, 1, 9, 0) ! Argument
            set(0, 1, 13, 0) ! Argument
            set(0, 1, 19, 0) ! Argument
            set(0, 1, 23, 0) ! Argument
            set(0, 1, 33, 0) ! Argument
            set(0, 1, 40, 0) ! Argument
            set(0, 1, 110, 0) ! Argument
            set(0, 1, -10, 0) ! Argument
            set(0, 1, 0, -1) ! Argument
            set(0, 1, 0, 6) ! Argument
            set(0, 1, 3, 0) = 0
            set(1, 0, 12, 5) = 1
            set(0, 1, 20, 1) = 2
            set(0, 1, 32, 2) = 3
            set(0, 1, 0, 3) = 4
            set(0, 1, 0, 0) ! State
            set(0, 1, 0, 6) ! Argument
            set(0, 0, 0, 0) ! Argument
            """);
    }

    private static void ordersByFields() {
        SCRIPT.run("promise 3: the order's field is one of the member type", """
            type(3) = 0
            type(2) = 1
            type(1) = 2
            set(0, 1, 12, 0) ! Argument
            set(0, 1, 22, 0) ! Argument
            set(0, 1, 32, 0) ! Argument
            set(0, 2, 11, 0) ! Argument
            set(0, 2, 31, 0) ! Argument
            set(0, 1, 31, 0) = 0
            set(1, 0, 32, 0) = 1
            set(2, 0, 22, 0) = 2
            set(0, 2, 20, 0) = 3
            """);
    }

    private static void closedForeverByStore() {
        SCRIPT.run("promises 2 and 3: no declaring once a record was stored", """
            type(1) = 0
            type(1) = 1
            set(0, 1, 0, 3) = 0
            store(1, 0, 0, 0) ! Element
            type(1) = 2
            set(0, 2, 0, 0) = 1
            store(0, 0, 0, 0) = 1
            type(1) ! State
            type(0) ! Argument
            set(0, 1, 0, 0) ! State
            set(0, 3, 0, 0) ! Argument
            erase(0) = 1
            type(1) ! State
            set(0, 1, 0, 0) ! State
            rollBack() = 0
            type(1) ! State
            set(0, 1, 0, 0) ! State
            """);
    }
}
