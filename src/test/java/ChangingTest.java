/** Promises 11 to 14: modify, connect, disconnect, reconnect. */
public final class ChangingTest {
    private static final Script SCRIPT = new Script();

    public static void main(String[] args) {
        modify();
        modifySorts();
        modifyAmongEquals();
        modifyRefused();
        connect();
        connectExceptions();
        connectByNextAndPrior();
        connectRefused();
        disconnect();
        disconnectExceptions();
        reconnect();
        reconnectByNextAndPrior();
        reconnectExceptions();
        SCRIPT.end();
    }

    private static void modify() {
        SCRIPT.run("promise 11: the field changes and one comes to the record", """
            type(2) = 0
            type(1) = 1
            set(0, 1, 1, 3) = 0
            modify(0, 1) ! Element
            modify(9, 1) ! Element
            store(0, 3, 4, 5) = 1
            modify(0, 8)
            get(0) = 8
            get(1) = 4
            modify(1, -1)
            get(1) = -1
            modify(2, 0) ! Argument
            modify(-1, 0) ! Argument
            store(1, 6, 0, 0) = 2
            store(1, 6, 0, 0) = 3
            find(2, 1)
            current(2, 0) = 3
            modify(0, 6)
            current(0, 0) = 2
            current(2, 0) = 2
            find(1, 1)
            current(2, 0) = 2
            modify(0, 0)
            current(2, 0) = 1
            move(0, 0) = 2
            modify(0, 99)
            move(0, 2) = 3
            modify(1, 0) ! Argument
            """);
    }

    private static void modifySorts() {
        SCRIPT.run("promise 11: it comes into the rings of sets sorted by the field again", """
            type(1) = 0
            type(2) = 1
            set(0, 1, 20, 3) = 0
            set(0, 1, 21, 3) = 1
            set(0, 1, 1, 3) = 2
            set(0, 1, 10, 0) = 3
            store(0, 0, 0, 0) = 1
            store(1, 1, 1, 0) = 2
            store(1, 2, 2, 0) = 3
            store(1, 3, 3, 0) = 4
            find(2, 0)
            modify(0, 9)
            current(2, 0) = 2
            current(2, 3) = 1
            owner(3, 2) = 0
            members(0) = 3
            move(0, 0) = 3
            move(0, 2) = 4
            move(0, 2) = 2
            move(0, 2) ! Element
            move(1, 0) = 2
            move(1, 2) = 3
            move(1, 2) = 4
            move(2, 0) = 2
            find(4, 0)
            modify(1, -9)
            move(1, 0) = 4
            move(1, 2) = 2
            move(0, 0) = 3
            move(0, 2) = 4
            move(2, 1) = 4
            """);
    }

    private static void modifyAmongEquals() {
        SCRIPT.run("promise 11: the same value leaves the place, another one takes it by the order", """
            type(1) = 0
            type(1) = 1
            set(0, 1, 10, 3) = 0
            set(0, 1, 20, 3) = 1
            store(0, 0, 0, 0) = 1
            store(1, 5, 0, 0) = 2
            store(1, 5, 0, 0) = 3
            store(1, 6, 0, 0) = 4
            find(2, 0)
            modify(0, 5)
            move(0, 0) = 3
            move(1, 0) = 2
            find(3, 0)
            modify(0, 5)
            move(0, 0) = 3
            move(0, 2) = 2
            find(4, 0)
            modify(0, 5)
            move(0, 0) = 4
            move(0, 2) = 3
            move(0, 2) = 2
            move(1, 0) = 2
            move(1, 2) = 3
            move(1, 2) = 4
            """);
    }

    private static void modifyRefused() {
        SCRIPT.run("promise 11: refused in one set, nothing changes in any", """
            type(1) = 0
            type(2) = 1
            set(0, 1, 10, 3) = 0
            set(0, 1, 30, 3) = 1
            store(0, 0, 0, 0) = 1
            store(1, 5, 0, 0) = 2
            store(1, 6, 0, 0) = 3
            store(1, 7, 0, 0) = 4
            find(2, 3)
            modify(0, 7) ! State
            modify(2, 7) ! Argument
            get(0) = 5
            current(2, 0) = 4
            current(2, 1) = 4
            move(0, 0) = 2
            move(0, 2) = 3
            find(2, 0)
            modify(0, 5)
            modify(0, 8)
            move(1, 1) = 2
            modify(0, 7) ! State
            modify(1, 7)
            store(0, 0, 0, 0) = 5
            store(1, 7, 0, 0) = 6
            modify(0, 6)
            """);
    }

    private static void connect() {
        SCRIPT.run("promise 12: joins the current owner's ring; one comes to it", """
            type(1) = 0
            type(1) = 1
            set(0, 1, 1, 0) = 0
            set(0, 1, 1, 3) = 1
            store(0, 0, 0, 0) = 1
            store(1, 0, 0, 0) = 2
            store(1, 0, 0, 0) = 3
            find(2, 2)
            current(2, 1) = 3
            connect(0)
            current(0, 0) = 2
            current(1, 1) = 2
            current(2, 0) = 2
            current(2, 1) = 2
            owner(0, 2) = 1
            members(0) = 1
            find(3, 0)
            current(2, 0) = 2
            connect(0)
            owner(0, 3) = 1
            members(0) = 2
            move(0, 3) = 2
            store(0, 0, 0, 0) = 4
            store(1, 0, 0, 0) = 5
            connect(0)
            owner(0, 5) = 4
            members(0) = 1
            """);
    }

    private static void connectExceptions() {
        SCRIPT.run("promise 12: wrong set, no record, no owner, wrong type, member already", """
            type(1) = 0
            type(1) = 1
            type(1) = 2
            set(0, 1, 1, 0) = 0
            set(2, 1, 1, 2) = 1
            connect(2) ! Argument
            connect(-1) ! Argument
            connect(0) ! Element
            store(1, 0, 0, 0) = 1
            connect(2) ! Argument
            connect(0) ! Element
            store(0, 0, 0, 0) = 2
            connect(0) ! State
            connect(1) ! Element
            find(1, 0)
            connect(0)
            connect(0) ! State
            members(0) = 1
            connect(1) ! Element
            store(2, 0, 0, 0) = 3
            connect(0) ! State
            connect(1) ! State
            find(1, 0)
            connect(1)
            owner(1, 1) = 3
            owner(0, 1) = 2
            """);
    }

    private static void connectByNextAndPrior() {
        SCRIPT.run("promise 12: NEXT and PRIOR by the current one of the set", """
            type(1) = 0
            type(1) = 1
            set(0, 1, 2, 0) = 0
            set(0, 1, 3, 0) = 1
            store(0, 0, 0, 0) = 1
            store(1, 0, 0, 0) = 2
            connect(0)
            connect(1)
            store(1, 0, 0, 0) = 3
            connect(0)
            connect(1)
            store(1, 0, 0, 0) = 4
            find(2, 0)
            find(4, 0)
            connect(0)
            connect(1)
            store(1, 0, 0, 0) = 5
            find(1, 0)
            find(5, 0)
            connect(0)
            connect(1)
            move(0, 0) = 5
            move(0, 2) = 2
            move(0, 2) = 4
            move(0, 2) = 3
            move(0, 2) ! Element
            move(1, 0) = 3
            move(1, 2) = 4
            move(1, 2) = 2
            move(1, 2) = 5
            move(1, 2) ! Element
            """);
    }

    private static void connectRefused() {
        SCRIPT.run("promise 12: refused, nothing changes", """
            type(1) = 0
            type(1) = 1
            set(0, 1, 30, 1) = 0
            store(0, 0, 0, 0) = 1
            store(1, 5, 0, 0) = 2
            connect(0)
            store(1, 5, 0, 0) = 3
            connect(0) ! State
            owner(0, 3) = 0
            members(0) = 1
            current(0, 0) = 3
            current(2, 0) = 2
            modify(0, 4)
            connect(0)
            move(0, 0) = 3
            """);
    }

    private static void disconnect() {
        SCRIPT.run("promise 13: leaves its ring; current of the set is the one before, or the owner", """
            type(1) = 0
            type(1) = 1
            set(0, 1, 1, 5) = 0
            set(0, 1, 1, 2) = 1
            store(0, 0, 0, 0) = 1
            store(1, 0, 0, 0) = 2
            connect(1)
            store(1, 0, 0, 0) = 3
            store(1, 0, 0, 0) = 4
            store(1, 0, 0, 0) = 5
            find(4, 0)
            disconnect(0)
            current(0, 0) = 4
            current(1, 1) = 4
            current(2, 0) = 3
            current(2, 1) = 2
            owner(0, 4) = 0
            members(0) = 3
            move(0, 2) = 5
            find(2, 0)
            disconnect(0)
            current(2, 0) = 1
            current(2, 1) = 2
            owner(1, 2) = 1
            disconnect(1)
            current(2, 1) = 1
            members(0) = 2
            find(3, 0)
            find(5, 1)
            disconnect(0)
            current(2, 0) = 3
            current(0, 0) = 5
            connect(0)
            current(2, 0) = 5
            find(1, 0)
            find(3, 1)
            disconnect(0)
            current(2, 0) = 1
            """);
    }

    private static void disconnectExceptions() {
        SCRIPT.run("promise 13: wrong set, no record, no member, not FREE", """
            type(1) = 0
            type(1) = 1
            set(0, 1, 1, 3) = 0
            set(0, 1, 1, 4) = 1
            set(0, 1, 1, 2) = 2
            set(0, 1, 1, 0) = 3
            set(0, 1, 1, 1) = 4
            disconnect(5) ! Argument
            disconnect(-1) ! Argument
            disconnect(2) ! Element
            store(0, 0, 0, 0) = 1
            disconnect(2) ! State
            store(1, 0, 0, 0) = 2
            disconnect(2) ! State
            disconnect(0) ! State
            disconnect(1) ! State
            connect(2)
            connect(3)
            connect(4)
            disconnect(3) ! State
            disconnect(4) ! State
            keep() = 2
            rollBack() = 2
            disconnect(2) ! Element
            find(2, 31)
            current(2, 2) = 0
            disconnect(2)
            current(2, 2) = 0
            owner(2, 2) = 0
            owner(0, 2) = 1
            owner(1, 2) = 1
            owner(3, 2) = 1
            owner(4, 2) = 1
            """);
    }

    private static void reconnect() {
        SCRIPT.run("promise 14: leaves its ring and joins the current owner's; one comes to it", """
            type(1) = 0
            type(1) = 1
            set(0, 1, 1, 4) = 0
            set(0, 1, 1, 5) = 1
            store(0, 0, 0, 0) = 1
            store(1, 0, 0, 0) = 2
            store(1, 0, 0, 0) = 3
            store(0, 0, 0, 0) = 4
            store(1, 0, 0, 0) = 5
            find(2, 1)
            reconnect(0)
            owner(0, 2) = 4
            owner(1, 2) = 1
            current(0, 0) = 2
            current(2, 0) = 2
            current(2, 1) = 2
            members(0) = 2
            move(0, 0) = 5
            move(0, 2) = 2
            find(1, 0)
            members(0) = 1
            move(0, 0) = 3
            find(5, 0)
            reconnect(1)
            owner(1, 5) = 4
            find(2, 0)
            reconnect(1)
            owner(1, 2) = 1
            move(1, 1) = 2
            """);
    }

    private static void reconnectByNextAndPrior() {
        SCRIPT.run("promise 14: current of the set itself: NEXT before all, PRIOR behind all", """
            type(1) = 0
            type(1) = 1
            set(0, 1, 2, 4) = 0
            set(0, 1, 3, 4) = 1
            store(0, 0, 0, 0) = 1
            store(1, 0, 0, 0) = 2
            store(1, 0, 0, 0) = 3
            store(1, 0, 0, 0) = 4
            find(3, 0)
            reconnect(0)
            reconnect(1)
            move(0, 0) = 3
            move(0, 2) = 2
            move(0, 2) = 4
            move(1, 0) = 4
            move(1, 2) = 2
            move(1, 2) = 3
            move(1, 2) ! Element
            find(2, 0)
            find(3, 3)
            reconnect(0)
            find(2, 0)
            find(3, 3)
            reconnect(1)
            move(0, 0) = 2
            move(0, 2) = 3
            move(0, 2) = 4
            move(0, 2) ! Element
            move(1, 0) = 4
            move(1, 2) = 3
            move(1, 2) = 2
            move(1, 2) ! Element
            find(1, 0)
            find(4, 3)
            reconnect(0)
            find(1, 0)
            find(4, 3)
            reconnect(1)
            move(0, 0) = 4
            move(1, 1) = 4
            """);
    }

    private static void reconnectExceptions() {
        SCRIPT.run("promise 14: wrong set, no record, no owner, no member, FIXED, refused", """
            type(1) = 0
            type(1) = 1
            set(0, 1, 30, 4) = 0
            set(0, 1, 1, 3) = 1
            set(0, 1, 1, 0) = 2
            set(0, 1, 1, 1) = 3
            reconnect(4) ! Argument
            reconnect(-1) ! Argument
            reconnect(0) ! Element
            store(0, 0, 0, 0) = 1
            reconnect(0) ! State
            store(1, 5, 0, 0) = 2
            reconnect(1) ! State
            reconnect(2) ! State
            reconnect(3) ! State
            connect(2)
            reconnect(2) ! State
            reconnect(0)
            owner(0, 2) = 1
            store(0, 0, 0, 0) = 3
            store(1, 5, 0, 0) = 4
            find(2, 1)
            reconnect(0) ! State
            owner(0, 2) = 1
            current(2, 0) = 4
            current(0, 0) = 2
            modify(0, 6)
            find(3, 0)
            find(2, 1)
            reconnect(0)
            owner(0, 2) = 3
            keep() = 4
            rollBack() = 4
            find(2, 15)
            reconnect(0) ! Element
            reconnect(1) ! Element
            reconnect(3) ! Element
            reconnect(4) ! Argument
            """);
    }
}
