/** Promises 5 to 10: find, seek, move, scan, current, get. */
public final class StandingTest {
    private static final Script SCRIPT = new Script();

    /** Owner 1 with 2, 3, 4 (fields 7, 8, 7); owner 5 with 6; owner 7 with none; 8 owned by 3 in set 1. */
    private static final String RINGS = """
        type(1) = 0
        type(2) = 1
        type(1) = 2
        set(0, 1, 1, 3) = 0
        set(1, 2, 1, 5) = 1
        store(0, 0, 0, 0) = 1
        store(1, 7, 1, 0) = 2
        store(1, 8, 2, 0) = 3
        store(1, 7, 3, 0) = 4
        store(0, 0, 0, 0) = 5
        store(1, 7, 4, 0) = 6
        store(0, 9, 0, 0) = 7
        find(3, 0)
        store(2, 0, 0, 0) = 8
        """;

    public static void main(String[] args) {
        find();
        seek();
        move();
        moveWithoutMembers();
        scan();
        current();
        get();
        SCRIPT.end();
    }

    private static void find() {
        SCRIPT.run("promise 5: comes to a record, but for the sets in stay", RINGS, """
            find(6, 0)
            current(0, 0) = 6
            current(1, 0) = 7
            current(1, 1) = 6
            current(1, 2) = 8
            current(2, 0) = 6
            current(2, 1) = 6
            find(3, 1)
            current(0, 0) = 3
            current(1, 1) = 3
            current(2, 0) = 6
            current(2, 1) = 3
            find(2, 2)
            current(2, 0) = 2
            current(2, 1) = 3
            find(4, 3)
            current(0, 0) = 4
            current(1, 1) = 4
            current(2, 0) = 2
            current(2, 1) = 3
            find(4, -4)
            current(2, 0) = 4
            current(2, 1) = 4
            find(6, -1)
            current(0, 0) = 6
            current(2, 0) = 4
            find(8, 0)
            current(2, 0) = 4
            current(2, 1) = 8
            current(1, 1) = 6
            find(0, 0) ! Element
            find(9, 0) ! Element
            find(-1, 0) ! Element
            current(0, 0) = 8
            erase(0) = 1
            find(8, 0) ! Element
            """);
    }

    private static void seek() {
        SCRIPT.run("promise 6: the first by keys with a value", RINGS, """
            seek(1, 0, 7) = 2
            current(0, 0) = 2
            current(2, 0) = 2
            seek(1, 0, 8) = 3
            seek(1, 1, 4) = 6
            current(1, 1) = 6
            current(2, 1) = 6
            seek(0, 0, 0) = 1
            seek(0, 0, 9) = 7
            seek(2, 0, 0) = 8
            seek(3, 0, 0) ! Argument
            seek(-1, 0, 0) ! Argument
            seek(0, 1, 0) ! Argument
            seek(0, -1, 0) ! Argument
            seek(1, 2, 0) ! Argument
            seek(1, 0, 9) ! Element
            current(0, 0) = 8
            find(2, 0)
            erase(0) = 1
            seek(1, 0, 7) = 4
            find(5, 0)
            store(1, 7, 0, 0) = 9
            seek(1, 0, 7) = 4
            """);
    }

    private static void move() {
        SCRIPT.run("promise 7: first, last, next, prior, owner", RINGS, """
            find(3, 0)
            move(0, 0) = 2
            current(0, 0) = 2
            current(1, 1) = 2
            current(2, 0) = 2
            current(2, 1) = 2
            move(0, 3) ! Element
            current(0, 0) = 2
            move(0, 2) = 3
            move(0, 2) = 4
            move(0, 2) ! Element
            current(2, 0) = 4
            move(0, 3) = 3
            move(0, 1) = 4
            move(0, 4) = 1
            current(0, 0) = 1
            current(2, 0) = 1
            current(2, 1) = 4
            move(0, 4) = 1
            move(0, 2) = 2
            find(1, 0)
            move(0, 3) = 4
            find(1, 0)
            move(0, 0) = 2
            find(1, 0)
            move(0, 1) = 4
            find(8, 0)
            move(0, 3) = 3
            find(6, 1)
            move(0, 3) = 2
            move(0, 5) ! Argument
            move(0, -1) ! Argument
            move(2, 0) ! Argument
            move(-1, 0) ! Argument
            """);
    }

    private static void moveWithoutMembers() {
        SCRIPT.run("promise 7: no current one, or no member", RINGS, """
            find(7, 0)
            move(0, 0) ! Element
            move(0, 1) ! Element
            move(0, 2) ! Element
            move(0, 3) ! Element
            current(0, 0) = 7
            move(0, 4) = 7
            keep() = 8
            rollBack() = 8
            move(0, 0) ! Element
            move(0, 1) ! Element
            move(0, 2) ! Element
            move(0, 3) ! Element
            move(0, 4) ! Element
            move(0, 5) ! Argument
            """);
    }

    private static void scan() {
        SCRIPT.run("promise 8: the next member with a value", RINGS, """
            find(1, 0)
            scan(0, 0, 7) = 2
            current(0, 0) = 2
            current(2, 0) = 2
            current(2, 1) = 2
            scan(0, 0, 7) = 4
            scan(0, 0, 7) ! Element
            current(2, 0) = 4
            find(1, 0)
            scan(0, 0, 8) = 3
            scan(0, 0, 8) ! Element
            scan(0, 1, 3) = 4
            find(1, 0)
            scan(0, 1, 4) ! Element
            current(0, 0) = 1
            find(3, 0)
            scan(1, 0, 0) = 8
            scan(0, 2, 0) ! Argument
            scan(0, -1, 0) ! Argument
            scan(1, 1, 0) ! Argument
            scan(2, 0, 0) ! Argument
            scan(-1, 0, 0) ! Argument
            keep() = 8
            rollBack() = 8
            scan(0, 0, 7) ! Element
            scan(0, 2, 7) ! Argument
            """);
    }

    private static void current() {
        SCRIPT.run("promise 9: of the run, of a type, of a set", RINGS, """
            current(0, 0) = 8
            current(0, -5) = 8
            current(0, 2147483647) = 8
            current(1, 0) = 7
            current(1, 1) = 3
            current(1, 2) = 8
            current(1, 3) ! Argument
            current(1, -1) ! Argument
            current(2, 0) = 3
            current(2, 1) = 8
            current(2, 2) ! Argument
            current(2, -1) ! Argument
            current(3, 0) ! Argument
            current(-1, 0) ! Argument
            keep() = 8
            rollBack() = 8
            current(0, 0) = 0
            current(1, 1) = 0
            current(2, 1) = 0
            """);
    }

    private static void get() {
        SCRIPT.run("promise 10: a field of the run's current record", RINGS, """
            find(4, 0)
            get(0) = 7
            get(1) = 3
            get(2) ! Argument
            get(-1) ! Argument
            find(7, 0)
            get(0) = 9
            get(1) ! Argument
            erase(0) = 1
            get(0) ! Element
            get(5) ! Element
            current(1, 1) = 4
            """);
    }
}
