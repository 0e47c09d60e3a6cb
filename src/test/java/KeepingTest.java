/** Promises 18 and 19: keep and rollBack. */
public final class KeepingTest {
    private static final Script SCRIPT = new Script();

    public static void main(String[] args) {
        neverKept();
        allComesBack();
        keptAgain();
        keptCopyIsApart();
        SCRIPT.end();
    }

    private static void neverKept() {
        SCRIPT.run("promise 19: at first there is no record, and the key that comes next is 1", """
            keep() = 0
            type(1) = 0
            type(1) = 1
            set(0, 1, 1, 3) = 0
            store(0, 0, 0, 0) = 1
            store(1, 0, 0, 0) = 2
            rollBack() = 0
            count() = 0
            current(0, 0) = 0
            current(1, 0) = 0
            current(1, 1) = 0
            current(2, 0) = 0
            find(1, 0) ! Element
            store(1, 0, 0, 0) ! Element
            store(0, 7, 0, 0) = 1
            get(0) = 7
            members(0) = 0
            store(1, 0, 0, 0) = 2
            members(0) = 1
            """);
    }

    private static void allComesBack() {
        SCRIPT.run("promises 18 and 19: records, fields, rings and the next key come back; nothing is current", """
            type(1) = 0
            type(2) = 1
            set(0, 1, 2, 5) = 0
            set(0, 1, 20, 2) = 1
            store(0, 1, 0, 0) = 1
            store(1, 5, 6, 0) = 2
            connect(1)
            store(1, 3, 4, 0) = 3
            connect(1)
            store(0, 1, 0, 0) = 4
            store(1, 3, 4, 0) = 5
            find(5, 0)
            erase(0) = 1
            keep() = 4
            count() = 4
            find(2, 0)
            current(0, 0) = 2
            modify(0, 1)
            modify(1, 9)
            disconnect(0)
            find(4, 0)
            find(3, 1)
            reconnect(0)
            find(1, 0)
            erase(3) = 3
            store(0, 0, 0, 0) = 6
            store(0, 0, 0, 0) = 7
            rollBack() = 4
            count() = 4
            current(0, 0) = 0
            current(1, 0) = 0
            current(1, 1) = 0
            current(2, 0) = 0
            current(2, 1) = 0
            get(0) ! Element
            members(0) ! Element
            move(0, 0) ! Element
            owner(0, 2) = 1
            owner(0, 3) = 1
            owner(1, 2) = 1
            owner(0, 4) = 0
            find(5, 0) ! Element
            find(6, 0) ! Element
            find(1, 0)
            move(0, 2) = 2
            get(0) = 5
            get(1) = 6
            move(0, 2) = 3
            move(0, 2) ! Element
            move(1, 0) = 3
            move(1, 2) = 2
            store(0, 0, 0, 0) = 6
            """);
    }

    private static void keptAgain() {
        SCRIPT.run("promises 18 and 19: what was kept last counts; it can come back again and again", """
            type(1) = 0
            store(0, 1, 0, 0) = 1
            keep() = 1
            store(0, 2, 0, 0) = 2
            keep() = 2
            store(0, 3, 0, 0) = 3
            rollBack() = 2
            rollBack() = 2
            find(1, 0)
            erase(0) = 1
            rollBack() = 2
            find(1, 0)
            get(0) = 1
            find(2, 0)
            erase(0) = 1
            keep() = 1
            rollBack() = 1
            store(0, 3, 0, 0) = 3
            find(2, 0) ! Element
            find(1, 0)
            erase(0) = 1
            find(3, 0)
            erase(0) = 1
            keep() = 0
            store(0, 0, 0, 0) = 4
            rollBack() = 0
            store(0, 0, 0, 0) = 4
            """);
    }

    private static void keptCopyIsApart() {
        SCRIPT.run("promise 19: changes behind a roll back do not reach what is kept", """
            type(3) = 0
            type(1) = 1
            set(1, 0, 1, 2) = 0
            store(1, 0, 0, 0) = 1
            store(0, 4, 5, 6) = 2
            keep() = 2
            current(0, 0) = 2
            connect(0)
            rollBack() = 2
            owner(0, 2) = 0
            find(2, 0)
            modify(0, 0)
            modify(1, 0)
            modify(2, 0)
            find(1, 0)
            find(2, 0)
            connect(0)
            rollBack() = 2
            owner(0, 2) = 0
            find(2, 0)
            get(0) = 4
            get(1) = 5
            get(2) = 6
            """);
    }
}
