/** Promise 15: erase, and where one stands behind it. */
public final class ErasingTest {
    private static final Script SCRIPT = new Script();

    /** 1 owns 2 (FIXED), 3 (BOUND), 4 (FREE), each of a type of its own. */
    private static final String THREE_HOLDS = """
        type(1) = 0
        type(1) = 1
        type(1) = 2
        type(1) = 3
        set(0, 1, 1, 0) = 0
        set(0, 2, 1, 1) = 1
        set(0, 3, 1, 2) = 2
        store(0, 0, 0, 0) = 1
        store(1, 0, 0, 0) = 2
        connect(0)
        store(2, 0, 0, 0) = 3
        store(3, 0, 0, 0) = 4
        connect(2)
        """;

    public static void main(String[] args) {
        exceptions();
        alone();
        modes();
        automaticModes();
        boundOneThatGoesOtherwise();
        deep();
        inACircle();
        standBeforeIt();
        standWhenSeveralGo();
        standWhenTheOwnerGoes();
        nothingOfItIsLeft();
        SCRIPT.end();
    }

    private static void exceptions() {
        SCRIPT.run("wrong mode, no record", """
            type(1) = 0
            erase(4) ! Argument
            erase(-1) ! Argument
            erase(0) ! Element
            erase(3) ! Element
            store(0, 0, 0, 0) = 1
            erase(4) ! Argument
            count() = 1
            erase(2) = 1
            count() = 0
            erase(0) ! Element
            erase(4) ! Argument
            """);
    }

    private static void alone() {
        SCRIPT.run("mode 0: alone, and not while it owns members, of whatever class", THREE_HOLDS, """
            find(1, 0)
            erase(0) ! State
            count() = 4
            current(0, 0) = 1
            current(2, 0) = 1
            find(2, 0)
            erase(0) = 1
            count() = 3
            find(2, 0) ! Element
            current(0, 0) = 0
            current(1, 1) = 0
            current(1, 0) = 1
            find(1, 0)
            erase(0) ! State
            find(4, 0)
            disconnect(2)
            find(1, 0)
            erase(0) = 1
            current(1, 0) = 0
            current(1, 3) = 4
            count() = 2
            """);
    }

    private static void modes() {
        SCRIPT.run("mode 1: FIXED go, FREE leave, BOUND forbid it", THREE_HOLDS, """
            find(1, 0)
            find(3, 2)
            connect(1)
            find(1, 0)
            erase(1) ! State
            count() = 4
            owner(0, 2) = 1
            owner(1, 3) = 1
            owner(2, 4) = 1
            current(0, 0) = 1
            find(3, 0)
            erase(1) = 1
            find(1, 0)
            erase(1) = 2
            count() = 1
            owner(2, 4) = 0
            current(1, 3) = 4
            current(1, 1) = 0
            """);
        SCRIPT.run("mode 2: FIXED and BOUND go, FREE leave", THREE_HOLDS, """
            find(3, 0)
            connect(1)
            find(1, 0)
            erase(2) = 3
            count() = 1
            owner(2, 4) = 0
            find(4, 0)
            get(0) = 0
            """);
        SCRIPT.run("mode 3: all go", THREE_HOLDS, """
            find(3, 0)
            connect(1)
            find(1, 0)
            erase(3) = 4
            count() = 0
            find(4, 0) ! Element
            """);
        SCRIPT.run("a BOUND set without members forbids nothing; one that is in no ring does not go", THREE_HOLDS, """
            find(1, 0)
            erase(1) = 2
            find(3, 0)
            find(4, 0)
            count() = 2
            """);
    }

    private static void automaticModes() {
        SCRIPT.run("classes 3, 4, 5 are FIXED, BOUND, FREE as well", """
            type(1) = 0
            type(1) = 1
            type(1) = 2
            type(1) = 3
            set(0, 1, 1, 3) = 0
            set(0, 2, 1, 4) = 1
            set(0, 3, 1, 5) = 2
            store(0, 0, 0, 0) = 1
            store(1, 0, 0, 0) = 2
            store(2, 0, 0, 0) = 3
            store(3, 0, 0, 0) = 4
            keep() = 4
            find(1, 0)
            erase(0) ! State
            erase(1) ! State
            erase(2) = 3
            owner(2, 4) = 0
            rollBack() = 4
            find(1, 0)
            erase(3) = 4
            rollBack() = 4
            find(3, 0)
            erase(0) = 1
            find(1, 0)
            erase(1) = 2
            owner(2, 4) = 0
            count() = 1
            """);
    }

    private static void boundOneThatGoesOtherwise() {
        SCRIPT.run("mode 1: a BOUND member that goes by a FIXED set forbids nothing", """
            type(1) = 0
            type(1) = 1
            set(0, 1, 1, 1) = 0
            set(0, 1, 1, 0) = 1
            store(0, 0, 0, 0) = 1
            store(1, 0, 0, 0) = 2
            connect(0)
            connect(1)
            keep() = 2
            find(1, 0)
            erase(1) = 2
            count() = 0
            rollBack() = 2
            find(1, 0)
            store(1, 0, 0, 0) = 3
            connect(0)
            find(1, 0)
            erase(1) ! State
            count() = 3
            """);
    }

    private static void deep() {
        SCRIPT.run("what goes takes along what it owns; a BOUND one below forbids mode 1", """
            type(1) = 0
            type(1) = 1
            type(1) = 2
            type(1) = 3
            set(0, 1, 1, 3) = 0
            set(1, 2, 1, 3) = 1
            set(2, 3, 1, 4) = 2
            set(0, 3, 1, 2) = 3
            store(0, 0, 0, 0) = 1
            store(1, 0, 0, 0) = 2
            store(1, 0, 0, 0) = 3
            store(2, 0, 0, 0) = 4
            store(2, 0, 0, 0) = 5
            keep() = 5
            find(1, 0)
            erase(1) = 5
            rollBack() = 5
            find(5, 0)
            store(3, 0, 0, 0) = 6
            find(1, 0)
            erase(1) ! State
            erase(2) = 6
            rollBack() = 5
            find(5, 0)
            store(3, 0, 0, 0) = 6
            find(2, 0)
            erase(1) = 1
            find(3, 0)
            erase(1) ! State
            erase(2) = 4
            count() = 1
            find(1, 0)
            """);
    }

    private static void inACircle() {
        SCRIPT.run("records that own each other in a circle go once", """
            type(1) = 0
            type(1) = 1
            set(0, 1, 1, 0) = 0
            set(1, 0, 1, 0) = 1
            store(0, 0, 0, 0) = 1
            store(1, 0, 0, 0) = 2
            connect(0)
            find(1, 2)
            connect(1)
            owner(0, 2) = 1
            owner(1, 1) = 2
            store(0, 0, 0, 0) = 3
            find(1, 0)
            erase(0) ! State
            erase(1) = 2
            count() = 1
            current(2, 0) = 0
            current(2, 1) = 0
            current(1, 0) = 0
            find(3, 0)
            members(0) = 0
            """);
    }

    private static void standBeforeIt() {
        SCRIPT.run("the nearest one before it is current of the set, or the owner", """
            type(1) = 0
            type(1) = 1
            set(0, 1, 1, 3) = 0
            set(0, 1, 0, 3) = 1
            store(0, 0, 0, 0) = 1
            store(1, 0, 0, 0) = 2
            store(1, 0, 0, 0) = 3
            store(1, 0, 0, 0) = 4
            erase(0) = 1
            current(0, 0) = 0
            current(1, 0) = 1
            current(1, 1) = 0
            current(2, 0) = 3
            current(2, 1) = 1
            move(0, 3) = 2
            find(3, 3)
            erase(0) = 1
            current(2, 0) = 2
            current(2, 1) = 2
            find(2, 0)
            erase(0) = 1
            current(2, 0) = 1
            current(2, 1) = 1
            members(0) = 0
            """);
    }

    private static void standWhenSeveralGo() {
        SCRIPT.run("the nearest one before it that stays: the ones between go too", """
            type(1) = 0
            type(1) = 1
            type(1) = 2
            set(0, 2, 1, 2) = 0
            set(1, 2, 1, 0) = 1
            store(0, 0, 0, 0) = 1
            store(1, 0, 0, 0) = 2
            store(2, 0, 0, 0) = 3
            connect(0)
            store(2, 0, 0, 0) = 4
            connect(0)
            connect(1)
            store(2, 0, 0, 0) = 5
            connect(0)
            connect(1)
            store(2, 0, 0, 0) = 6
            connect(0)
            keep() = 6
            find(5, 0)
            find(2, 0)
            erase(1) = 3
            current(2, 0) = 3
            current(2, 1) = 0
            current(1, 2) = 0
            members(0) = 2
            move(0, 2) = 6
            rollBack() = 6
            find(6, 0)
            find(2, 0)
            erase(1) = 3
            current(2, 0) = 6
            current(1, 2) = 6
            move(0, 3) = 3
            rollBack() = 6
            find(3, 0)
            erase(0) = 1
            find(5, 0)
            find(2, 0)
            erase(1) = 3
            current(2, 0) = 1
            move(0, 2) = 6
            """);
    }

    private static void standWhenTheOwnerGoes() {
        SCRIPT.run("none is current of the set when the owner goes, though members stay in the base", """
            type(1) = 0
            type(1) = 1
            set(0, 1, 1, 5) = 0
            store(0, 0, 0, 0) = 1
            store(1, 0, 0, 0) = 2
            store(1, 0, 0, 0) = 3
            keep() = 3
            find(1, 1)
            current(2, 0) = 3
            erase(1) = 1
            current(2, 0) = 0
            current(1, 1) = 3
            current(0, 0) = 0
            members(0) ! Element
            owner(0, 3) = 0
            rollBack() = 3
            find(1, 0)
            erase(2) = 1
            current(2, 0) = 0
            rollBack() = 3
            store(0, 0, 0, 0) = 4
            find(1, 1)
            erase(1) = 1
            current(2, 0) = 4
            """);
    }

    private static void nothingOfItIsLeft() {
        SCRIPT.run("what is stored behind it takes over no ring, position, field or current place", """
            type(1) = 0
            type(1) = 1
            set(0, 1, 1, 5) = 0
            set(0, 1, 1, 5) = 1
            store(0, 0, 0, 0) = 1
            store(1, 8, 0, 0) = 2
            store(1, 9, 0, 0) = 3
            erase(0) = 1
            store(0, 0, 0, 0) = 4
            current(1, 1) = 0
            owner(0, 4) = 0
            owner(1, 4) = 0
            seek(0, 0, 9) ! Element
            store(1, 5, 0, 0) = 5
            store(1, 6, 0, 0) = 6
            find(4, 0)
            move(0, 2) = 5
            find(4, 0)
            scan(1, 0, 5) = 5
            find(1, 0)
            erase(1) = 1
            find(4, 0)
            store(1, 7, 0, 0) = 7
            owner(0, 2) = 0
            owner(1, 2) = 0
            owner(0, 7) = 4
            store(0, 0, 0, 0) = 8
            members(0) = 0
            members(1) = 0
            current(1, 0) = 8
            """);
    }
}
