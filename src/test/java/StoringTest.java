/** Promise 4: store, and where each order puts a record. */
public final class StoringTest {
    private static final Script SCRIPT = new Script();

    public static void main(String[] args) {
        plainStore();
        exceptions();
        fullBase();
        joinsAutomaticSetsAlone();
        joinsTheCurrentOwnersRing();
        firstAndLast();
        next();
        prior();
        sortedBeforeEquals();
        sortedBehindEquals();
        sortedWithoutEquals();
        sortedByFarValues();
        refusedInTheSecondSet();
        SCRIPT.end();
    }

    private static void plainStore() {
        SCRIPT.run("keys 1, 2, ..; one comes to what is stored; fields behind the type's are not taken", """
            type(1) = 0
            type(3) = 1
            store(0, -7, 8, 9) = 1
            current(0, 0) = 1
            current(1, 0) = 1
            current(1, 1) = 0
            get(0) = -7
            get(1) ! Argument
            store(1, 4, 5, 2147483647) = 2
            current(0, 0) = 2
            current(1, 0) = 1
            current(1, 1) = 2
            get(0) = 4
            get(1) = 5
            get(2) = 2147483647
            store(1, 4, 5, 6) = 3
            count() = 3
            find(2, 0)
            erase(0) = 1
            store(0, 0, 0, 0) = 4
            find(2, 0) ! Element
            """);
    }

    private static void exceptions() {
        SCRIPT.run("illegal argument before no such element before illegal state; nothing changes", """
            type(1) = 0
            type(1) = 1
            type(1) = 2
            set(0, 2, 30, 3) = 0
            set(1, 2, 1, 3) = 1
            store(3, 0, 0, 0) ! Argument
            store(-1, 0, 0, 0) ! Argument
            store(2, 0, 0, 0) ! Element
            store(0, 0, 0, 0) = 1
            store(2, 0, 0, 0) ! Element
            count() = 1
            members(0) = 0
            store(1, 0, 0, 0) = 2
            store(2, 0, 0, 0) = 3
            store(2, 0, 0, 0) ! State
            count() = 3
            members(0) = 1
            members(1) = 1
            current(0, 0) = 3
            find(2, 0)
            store(2, 0, 0, 0) ! State
            current(0, 0) = 2
            current(1, 2) = 3
            current(2, 1) = 2
            store(2, 1, 0, 0) = 4
            """);
    }

    private static void fullBase() {
        StringBuilder rows = new StringBuilder("type(1) = 0\ntype(1) = 1\nset(0, 1, 0, 3) = 0\n");
        for (int key = 1; key <= 24; key++) {
            rows.append("store(").append(key == 1 ? 0 : 1).append(", ").append(key).append(", 0, 0) = ")
                .append(key).append('\n');
        }
        SCRIPT.run("24 records at most", rows.toString(), """
            store(0, 0, 0, 0) ! State
            store(1, 0, 0, 0) ! State
            store(2, 0, 0, 0) ! Argument
            count() = 24
            members(0) = 23
            current(0, 0) = 24
            find(10, 0)
            erase(0) = 1
            count() = 23
            find(1, 0)
            store(1, 77, 0, 0) = 25
            store(0, 0, 0, 0) ! State
            keep() = 24
            rollBack() = 24
            store(1, 0, 0, 0) ! Element
            store(0, 0, 0, 0) ! State
            find(25, 0)
            get(0) = 77
            move(0, 0) = 25
            move(0, 2) = 24
            """);
    }

    private static void joinsAutomaticSetsAlone() {
        SCRIPT.run("classes 3, 4, 5 are joined, 0, 1, 2 not", """
            type(1) = 0
            type(1) = 1
            set(0, 1, 1, 0) = 0
            set(0, 1, 1, 2) = 1
            set(0, 1, 1, 3) = 2
            set(0, 1, 1, 4) = 3
            set(0, 1, 1, 5) = 4
            store(0, 0, 0, 0) = 1
            store(1, 0, 0, 0) = 2
            owner(0, 2) = 0
            owner(1, 2) = 0
            owner(2, 2) = 1
            owner(3, 2) = 1
            owner(4, 2) = 1
            current(2, 0) = 1
            current(2, 1) = 1
            current(2, 2) = 2
            current(2, 3) = 2
            current(2, 4) = 2
            """);
        SCRIPT.run("class 1 is not joined, and its lack of an owner does not matter", """
            type(1) = 0
            type(1) = 1
            set(0, 1, 1, 1) = 0
            set(1, 0, 30, 4) = 1
            store(1, 0, 0, 0) = 1
            current(2, 0) = 0
            current(2, 1) = 1
            store(0, 0, 0, 0) = 2
            owner(1, 2) = 1
            current(2, 0) = 2
            current(2, 1) = 2
            """);
    }

    private static void joinsTheCurrentOwnersRing() {
        SCRIPT.run("the ring of the current owner, also when a member is current", """
            type(1) = 0
            type(1) = 1
            set(0, 1, 1, 3) = 0
            store(0, 0, 0, 0) = 1
            store(1, 0, 0, 0) = 2
            store(0, 0, 0, 0) = 3
            store(1, 0, 0, 0) = 4
            find(2, 0)
            store(1, 0, 0, 0) = 5
            find(3, 1)
            store(1, 0, 0, 0) = 6
            owner(0, 2) = 1
            owner(0, 4) = 3
            owner(0, 5) = 1
            owner(0, 6) = 1
            """);
    }

    private static void firstAndLast() {
        SCRIPT.run("FIRST before all, LAST behind all, wherever one stands", """
            type(1) = 0
            type(1) = 1
            set(0, 1, 0, 3) = 0
            set(0, 1, 1, 3) = 1
            store(0, 0, 0, 0) = 1
            store(1, 0, 0, 0) = 2
            store(1, 0, 0, 0) = 3
            find(2, 0)
            store(1, 0, 0, 0) = 4
            move(0, 0) = 4
            move(0, 2) = 3
            move(0, 2) = 2
            move(0, 2) ! Element
            move(1, 0) = 2
            move(1, 2) = 3
            move(1, 2) = 4
            move(1, 2) ! Element
            """);
    }

    private static void next() {
        SCRIPT.run("NEXT: behind the current one, or before all when the owner is current", """
            type(1) = 0
            type(1) = 1
            set(0, 1, 2, 3) = 0
            store(0, 0, 0, 0) = 1
            store(1, 0, 0, 0) = 2
            store(1, 0, 0, 0) = 3
            store(1, 0, 0, 0) = 4
            find(3, 0)
            store(1, 0, 0, 0) = 5
            find(1, 0)
            store(1, 0, 0, 0) = 6
            move(0, 0) = 6
            move(0, 2) = 2
            move(0, 2) = 3
            move(0, 2) = 5
            move(0, 2) = 4
            move(0, 2) ! Element
            """);
    }

    private static void prior() {
        SCRIPT.run("PRIOR: before the current one, or behind all when the owner is current", """
            type(1) = 0
            type(1) = 1
            set(0, 1, 3, 3) = 0
            store(0, 0, 0, 0) = 1
            store(1, 0, 0, 0) = 2
            store(1, 0, 0, 0) = 3
            store(1, 0, 0, 0) = 4
            find(3, 0)
            store(1, 0, 0, 0) = 5
            find(1, 0)
            store(1, 0, 0, 0) = 6
            move(0, 0) = 4
            move(0, 2) = 5
            move(0, 2) = 3
            move(0, 2) = 2
            move(0, 2) = 6
            move(0, 2) ! Element
            """);
    }

    private static void sortedBeforeEquals() {
        SCRIPT.run("10 to 12: before those with the same value", """
            type(1) = 0
            type(3) = 1
            set(0, 1, 10, 3) = 0
            set(0, 1, 11, 3) = 1
            set(0, 1, 12, 3) = 2
            store(0, 0, 0, 0) = 1
            store(1, 5, 1, 9) = 2
            store(1, 3, 1, 8) = 3
            store(1, 5, 1, 9) = 4
            store(1, 4, 0, 9) = 5
            move(0, 0) = 3
            move(0, 2) = 5
            move(0, 2) = 4
            move(0, 2) = 2
            move(0, 2) ! Element
            move(1, 0) = 5
            move(1, 2) = 4
            move(1, 2) = 3
            move(1, 2) = 2
            move(1, 2) ! Element
            move(2, 0) = 3
            move(2, 2) = 5
            move(2, 2) = 4
            move(2, 2) = 2
            move(2, 2) ! Element
            """);
    }

    private static void sortedBehindEquals() {
        SCRIPT.run("20 to 22: behind those with the same value", """
            type(1) = 0
            type(3) = 1
            set(0, 1, 20, 3) = 0
            set(0, 1, 21, 3) = 1
            set(0, 1, 22, 3) = 2
            store(0, 0, 0, 0) = 1
            store(1, 5, 1, 9) = 2
            store(1, 3, 1, 8) = 3
            store(1, 5, 1, 9) = 4
            store(1, 4, 0, 9) = 5
            move(0, 0) = 3
            move(0, 2) = 5
            move(0, 2) = 2
            move(0, 2) = 4
            move(0, 2) ! Element
            move(1, 0) = 5
            move(1, 2) = 2
            move(1, 2) = 3
            move(1, 2) = 4
            move(1, 2) ! Element
            move(2, 0) = 3
            move(2, 2) = 2
            move(2, 2) = 4
            move(2, 2) = 5
            move(2, 2) ! Element
            """);
    }

    private static void sortedWithoutEquals() {
        SCRIPT.run("30 to 32: refused when the ring has the value; another ring's does not matter", """
            type(1) = 0
            type(3) = 1
            set(0, 1, 30, 3) = 0
            set(0, 1, 31, 3) = 1
            set(0, 1, 32, 3) = 2
            store(0, 0, 0, 0) = 1
            store(1, 5, 6, 7) = 2
            store(1, 5, 1, 1) ! State
            store(1, 1, 6, 1) ! State
            store(1, 1, 1, 7) ! State
            store(1, 6, 7, 5) = 3
            store(1, 4, 8, 6) = 4
            move(0, 0) = 4
            move(0, 2) = 2
            move(0, 2) = 3
            move(1, 0) = 2
            move(1, 2) = 3
            move(1, 2) = 4
            move(2, 0) = 3
            move(2, 2) = 4
            move(2, 2) = 2
            store(0, 0, 0, 0) = 5
            store(1, 5, 6, 7) = 6
            members(0) = 1
            """);
    }

    private static void sortedByFarValues() {
        SCRIPT.run("values are compared, not subtracted", """
            type(1) = 0
            type(1) = 1
            set(0, 1, 10, 3) = 0
            store(0, 0, 0, 0) = 1
            store(1, 2147483647, 0, 0) = 2
            store(1, -2147483648, 0, 0) = 3
            store(1, 0, 0, 0) = 4
            move(0, 0) = 3
            move(0, 2) = 4
            move(0, 2) = 2
            """);
    }

    private static void refusedInTheSecondSet() {
        SCRIPT.run("refused in one set, it joins none and takes no key", """
            type(1) = 0
            type(1) = 1
            type(2) = 2
            set(0, 2, 2, 3) = 0
            set(1, 2, 31, 4) = 1
            store(0, 0, 0, 0) = 1
            store(1, 0, 0, 0) = 2
            store(2, 1, 1, 0) = 3
            store(2, 2, 1, 0) ! State
            members(0) = 1
            members(1) = 1
            count() = 3
            current(0, 0) = 3
            seek(2, 0, 2) ! Element
            store(2, 2, 2, 0) = 4
            members(0) = 2
            """);
    }
}
