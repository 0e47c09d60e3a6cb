/** Promises 16, 17 and 20: members, owner, count. */
public final class TellingTest {
    private static final Script SCRIPT = new Script();

    public static void main(String[] args) {
        members();
        owner();
        count();
        SCRIPT.end();
    }

    private static void members() {
        SCRIPT.run("promise 16: how many the current owner's ring has", """
            type(1) = 0
            type(1) = 1
            set(0, 1, 1, 3) = 0
            set(1, 0, 1, 2) = 1
            members(2) ! Argument
            members(-1) ! Argument
            members(0) ! Element
            store(0, 0, 0, 0) = 1
            members(0) = 0
            members(1) ! Element
            store(1, 0, 0, 0) = 2
            members(0) = 1
            store(1, 0, 0, 0) = 3
            members(0) = 2
            members(1) = 0
            store(0, 0, 0, 0) = 4
            members(0) = 0
            store(1, 0, 0, 0) = 5
            members(0) = 1
            find(2, 0)
            members(0) = 2
            current(0, 0) = 2
            find(5, 1)
            members(0) = 2
            find(1, 0)
            members(0) = 2
            """);
    }

    private static void owner() {
        SCRIPT.run("promise 17: the owner's key, 0 for no member", """
            type(1) = 0
            type(1) = 1
            set(0, 1, 1, 3) = 0
            set(0, 1, 1, 2) = 1
            owner(0, 1) ! Element
            owner(2, 1) ! Argument
            owner(-1, 1) ! Argument
            store(0, 0, 0, 0) = 1
            store(0, 0, 0, 0) = 2
            store(1, 0, 0, 0) = 3
            owner(0, 3) = 2
            owner(1, 3) = 0
            owner(0, 1) = 0
            owner(0, 2) = 0
            owner(0, 0) ! Element
            owner(0, 4) ! Element
            owner(0, -1) ! Element
            owner(2, 9) ! Argument
            current(0, 0) = 3
            find(1, 0)
            owner(0, 3) = 2
            current(0, 0) = 1
            find(3, 0)
            erase(0) = 1
            owner(0, 3) ! Element
            """);
    }

    private static void count() {
        SCRIPT.run("promise 20: how many records there are", """
            count() = 0
            type(1) = 0
            count() = 0
            store(0, 0, 0, 0) = 1
            count() = 1
            store(0, 0, 0, 0) = 2
            count() = 2
            store(1, 0, 0, 0) ! Argument
            count() = 2
            erase(0) = 1
            count() = 1
            keep() = 1
            count() = 1
            store(0, 0, 0, 0) = 3
            count() = 2
            rollBack() = 1
            count() = 1
            """);
    }
}
