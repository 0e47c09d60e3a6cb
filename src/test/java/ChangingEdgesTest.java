/**
 * The edges of promises 11 to 14: modify, connect, disconnect, reconnect; each run bears the
 * sentence that it would miss.
 */
public final class ChangingEdgesTest {
    private static final Script SCRIPT = new Script();

    public static void main(String[] args) {
        modifyField();
        modifyComesInAgain();
        modifyAmongEquals();
        modifySameValue();
        modifyComesToIt();
        modifyExceptions();
        modifyRefused();
        connectJoins();
        connectExceptions();
        connectNotOfTheMemberType();
        connectMemberAlready();
        connectRefused();
        disconnectLeaves();
        disconnectExceptions();
        disconnectNotFree();
        reconnectToAnotherRing();
        reconnectItsOwnRing();
        reconnectByTheCurrentOne();
        reconnectSorted();
        reconnectExceptions();
        reconnectRefused();
        SCRIPT.end();
    }

    private static void modifyField() {
        SCRIPT.run("promise 11: a field becomes v: the first, the last, and none beside them", """
            type(3) = 0; store(0, 1, 2, 3) = 1
            modify(0, 2147483647); get(0) = 2147483647; get(1) = 2; get(2) = 3
            modify(2, -2147483648); get(0) = 2147483647; get(1) = 2; get(2) = -2147483648
            modify(-1, 0) ! Argument; modify(3, 0) ! Argument
            """);
        SCRIPT.run("promise 11: of the run's current record, no other's", """
            type(1) = 0; store(0, 5, 0, 0) = 1; store(0, 5, 0, 0) = 2; store(0, 5, 0, 0) = 3
            find(2, 0); modify(0, 6)
            find(1, 0); get(0) = 5; find(2, 0); get(0) = 6; find(3, 0); get(0) = 5
            """);
        for (int fields = 1; fields <= 3; fields++) {
            SCRIPT.run("promise 11: illegal argument: the field is one behind those of the type",
                "type(" + fields + ") = 0; store(0, 1, 2, 3) = 1",
                "modify(" + (fields - 1) + ", 9); modify(" + fields + ", 9) ! Argument; modify(-1, 9) ! Argument",
                "get(" + (fields - 1) + ") = 9");
        }
    }

    /** The ring of 1 in each of three sets: 2, 3, 4 with the values 10, 20, 30; sorted by fields 0, 1 and not. */
    private static final String SORTED_RINGS = """
        type(1) = 0; type(2) = 1
        set(0, 1, 20, 3) = 0; set(0, 1, 11, 4) = 1; set(0, 1, 1, 5) = 2; set(0, 1, 30, 0) = 3
        store(0, 0, 0, 0) = 1; store(1, 10, 10, 0) = 2; store(1, 20, 20, 0) = 3; store(1, 30, 30, 0) = 4
        """;

    private static void modifyComesInAgain() {
        int[][] cases = {
            // value of the middle one, and the ring behind it
            {9, 3, 2, 4}, {11, 2, 3, 4}, {29, 2, 3, 4}, {31, 2, 4, 3},
            {Integer.MIN_VALUE, 3, 2, 4}, {Integer.MAX_VALUE, 2, 4, 3}};
        for (int[] c : cases) {
            SCRIPT.run("promise 11: in each set sorted by that field it comes into its ring again, by " + c[0],
                SORTED_RINGS, "find(3, 0); modify(0, " + c[0] + "); owner(0, 3) = 1; current(2, 0) = 3",
                Script.ring(0, 1, c[1], c[2], c[3]), Script.ring(1, 1, 2, 3, 4), Script.ring(2, 1, 2, 3, 4),
                Script.ring(3, 1));
        }
        SCRIPT.run("promise 11: sorted by that field, not by another", SORTED_RINGS,
            "find(2, 0); modify(1, 99)",
            Script.ring(0, 1, 2, 3, 4), Script.ring(1, 1, 3, 4, 2), Script.ring(2, 1, 2, 3, 4));
        SCRIPT.run("promise 11: a ring with it alone", """
            type(1) = 0; type(1) = 1; set(0, 1, 30, 3) = 0
            store(0, 0, 0, 0) = 1; store(1, 5, 0, 0) = 2
            modify(0, 6); modify(0, -6); modify(0, 5); get(0) = 5
            """, Script.ring(0, 1, 2));
        SCRIPT.run("promise 11: in which it is a member: it joins no ring by it", SORTED_RINGS,
            "find(3, 0); modify(0, 99); owner(3, 3) = 0; current(2, 3) = 1", Script.ring(3, 1));
        SCRIPT.run("promise 11: into its ring, though another owner is the current one", SORTED_RINGS, """
            store(0, 0, 0, 0) = 5; find(3, 15)
            current(2, 0) = 5
            modify(0, 99)
            owner(0, 3) = 1; current(2, 0) = 3
            """, Script.ring(0, 1, 2, 4, 3), Script.ring(0, 5));
        SCRIPT.run("promise 11: a field of the owner changes no ring", SORTED_RINGS,
            "find(1, 0); modify(0, 99); get(0) = 99", Script.ring(0, 1, 2, 3, 4), Script.ring(1, 1, 2, 3, 4));
    }

    private static void modifyAmongEquals() {
        for (int order : new int[] {10, 20}) {
            boolean before = order == 10;
            String base = "type(1) = 0; type(1) = 1; set(0, 1, " + order + ", 3) = 0\n"
                + "store(0, 0, 0, 0) = 1; store(1, 10, 0, 0) = 2; store(1, 20, 0, 0) = 3; store(1, 30, 0, 0) = 4\n";
            SCRIPT.run(order + ", promise 11: by the order: as great as the one before it", base,
                "find(3, 0); modify(0, 10)", before ? Script.ring(0, 1, 3, 2, 4) : Script.ring(0, 1, 2, 3, 4));
            SCRIPT.run(order + ", promise 11: by the order: as great as the one behind it", base,
                "find(3, 0); modify(0, 30)", before ? Script.ring(0, 1, 2, 3, 4) : Script.ring(0, 1, 2, 4, 3));
        }
    }

    private static void modifySameValue() {
        SCRIPT.run("promise 11: unless the value is the same: 10, it stays behind its equals", """
            type(1) = 0; type(1) = 1; set(0, 1, 10, 3) = 0
            store(0, 0, 0, 0) = 1; store(1, 5, 0, 0) = 2; store(1, 5, 0, 0) = 3; store(1, 5, 0, 0) = 4
            find(2, 0); modify(0, 5)
            """, Script.ring(0, 1, 4, 3, 2), "find(3, 0); modify(0, 5)", Script.ring(0, 1, 4, 3, 2),
            "find(2, 0); modify(0, 6); modify(0, 5)", Script.ring(0, 1, 2, 4, 3));
        SCRIPT.run("promise 11: unless the value is the same: 20, it stays before its equals", """
            type(1) = 0; type(1) = 1; set(0, 1, 20, 3) = 0
            store(0, 0, 0, 0) = 1; store(1, 5, 0, 0) = 2; store(1, 5, 0, 0) = 3; store(1, 5, 0, 0) = 4
            find(2, 0); modify(0, 5)
            """, Script.ring(0, 1, 2, 3, 4), "find(3, 0); modify(0, 5)", Script.ring(0, 1, 2, 3, 4),
            "find(2, 0); modify(0, 4); modify(0, 5)", Script.ring(0, 1, 3, 4, 2));
        SCRIPT.run("promise 11: unless the value is the same: 30, it is not refused by itself", """
            type(1) = 0; type(1) = 1; set(0, 1, 30, 3) = 0
            store(0, 0, 0, 0) = 1; store(1, 5, 0, 0) = 2; store(1, 6, 0, 0) = 3
            find(2, 0); modify(0, 5)
            """, Script.ring(0, 1, 2, 3));
    }

    private static void modifyComesToIt() {
        SCRIPT.run("promise 11: and one comes to it, by a field that no set is sorted by", SORTED_RINGS, """
            find(3, 15); current(2, 0) = 4; current(2, 1) = 4; current(2, 2) = 4; current(2, 3) = 1
            modify(0, 21)
            current(0, 0) = 3; current(1, 1) = 3
            current(2, 0) = 3; current(2, 1) = 3; current(2, 2) = 3; current(2, 3) = 1
            """);
        SCRIPT.run("promise 11: and one comes to it, though the value is the same", SORTED_RINGS, """
            find(3, 15); modify(0, 20)
            current(2, 0) = 3; current(2, 1) = 3; current(2, 2) = 3; current(2, 3) = 1
            """, Script.ring(0, 1, 2, 3, 4));
        SCRIPT.run("promise 11: and one comes to it, an owner", SORTED_RINGS, """
            find(1, 15); modify(0, 7)
            current(2, 0) = 1; current(2, 1) = 1; current(2, 2) = 1; current(2, 3) = 1; current(1, 1) = 4
            """);
    }

    private static void modifyExceptions() {
        SCRIPT.run("promise 11: no such element: none is current of the run, whatever the field is", """
            modify(0, 0) ! Element; modify(-1, 0) ! Element
            type(1) = 0
            modify(0, 0) ! Element; modify(1, 0) ! Element
            store(0, 5, 0, 0) = 1; erase(0) = 1
            modify(0, 0) ! Element; modify(1, 0) ! Element; modify(-1, 0) ! Element
            """);
    }

    private static void modifyRefused() {
        String base = """
            type(1) = 0; type(2) = 1
            set(0, 1, 20, 3) = 0; set(0, 1, 30, 3) = 1; set(0, 1, 31, 2) = 2
            store(0, 0, 0, 0) = 1; store(1, 10, 1, 0) = 2; store(1, 20, 2, 0) = 3; store(1, 30, 3, 0) = 4
            """;
        SCRIPT.run("promise 11: illegal state: it is refused in the second set, and stays in the first", base, """
            find(3, 7)
            modify(0, 10) ! State; modify(0, 30) ! State
            get(0) = 20; current(2, 0) = 4; current(2, 1) = 4
            """, Script.ring(0, 1, 2, 3, 4), Script.ring(1, 1, 2, 3, 4));
        for (int value : new int[] {9, 11, 29, 31}) {
            SCRIPT.run("promise 11: one beside a value that would be refused, " + value, base,
                "find(3, 0); modify(0, " + value + "); get(0) = " + value);
        }
        SCRIPT.run("promise 11: a set in which it is no member does not refuse it, nor do those in no ring", base, """
            find(2, 0); connect(2)
            find(3, 0); modify(1, 1); get(1) = 1
            connect(2) ! State
            modify(1, 2); connect(2)
            modify(1, 1) ! State; modify(1, 3); get(1) = 3
            """, Script.ring(2, 1, 2, 3));
        SCRIPT.run("promise 11: another owner's ring does not refuse it", base, """
            store(0, 0, 0, 0) = 5; store(1, 11, 0, 0) = 6
            modify(0, 10); modify(0, 20); modify(0, 30); get(0) = 30
            """, Script.ring(1, 5, 6), Script.ring(1, 1, 2, 3, 4));
        SCRIPT.run("promise 11: the one that has gone does not refuse it", base, """
            find(2, 0); erase(0) = 1
            find(3, 0); modify(0, 10); get(0) = 10
            """);
    }

    /** 1 and 2 own, 3 and 4 are members of none. */
    private static final String UNTIED = """
        type(1) = 0; type(1) = 1; type(1) = 2
        set(0, 1, 1, 0) = 0; set(0, 1, 1, 1) = 1; set(0, 1, 30, 2) = 2
        store(0, 0, 0, 0) = 1; store(0, 0, 0, 0) = 2; store(1, 5, 0, 0) = 3; store(1, 5, 0, 0) = 4
        """;

    private static void connectJoins() {
        SCRIPT.run("promise 12: it joins the current owner's ring, of each class", UNTIED, """
            connect(0); connect(1); connect(2)
            owner(0, 4) = 2; owner(1, 4) = 2; owner(2, 4) = 2
            find(1, 0); find(3, 0)
            connect(0); connect(1); connect(2)
            owner(0, 3) = 1; owner(1, 3) = 1; owner(2, 3) = 1
            """, Script.ring(0, 1, 3), Script.ring(0, 2, 4));
        SCRIPT.run("promise 12: the current owner is that of the ring of the set's current member", UNTIED, """
            connect(0); find(1, 1); find(3, 0)
            current(2, 0) = 4; current(2, 1) = 1
            connect(0); owner(0, 3) = 2
            """, Script.ring(0, 2, 4, 3));
        SCRIPT.run("promise 12: one comes to it, also in the sets where one did not stand on it", UNTIED, """
            connect(1); find(1, 0); find(4, 2)
            current(0, 0) = 4; current(2, 0) = 1; current(2, 1) = 1; current(2, 2) = 1
            connect(0)
            current(0, 0) = 4; current(1, 1) = 4; current(2, 0) = 4; current(2, 1) = 4; current(2, 2) = 1
            owner(0, 4) = 1; owner(1, 4) = 2
            """);
        SCRIPT.run("promise 12: who has left a free set may join it again, also an automatic one", """
            type(1) = 0; type(1) = 1; set(0, 1, 1, 5) = 0
            store(0, 0, 0, 0) = 1; store(1, 0, 0, 0) = 2
            connect(0) ! State
            disconnect(0); owner(0, 2) = 0
            connect(0); owner(0, 2) = 1
            """);
    }

    private static void connectExceptions() {
        SCRIPT.run("promise 12: illegal argument: the set, one beside those that there are", UNTIED, """
            connect(-1) ! Argument; connect(3) ! Argument; connect(4) ! Argument
            connect(2); owner(2, 4) = 2
            """);
        SCRIPT.run("promise 12: no such element: none is current of the run; illegal argument comes first", UNTIED, """
            erase(0) = 1
            current(2, 0) = 2
            connect(0) ! Element; connect(3) ! Argument; connect(-1) ! Argument
            find(3, 0); connect(0)
            """);
        SCRIPT.run("promise 12: no such element: there is no current owner", UNTIED, """
            keep() = 4; rollBack() = 4
            find(3, 0)
            connect(0) ! Element; connect(2) ! Element; connect(3) ! Argument
            find(1, 6); find(3, 0)
            connect(2) ! Element
            connect(0); owner(0, 3) = 1
            """);
        SCRIPT.run("promise 12: no current owner, and not of the member type: no such element", UNTIED, """
            store(2, 0, 0, 0) = 5; keep() = 5; rollBack() = 5
            find(5, 0); connect(0) ! Element
            find(1, 7); connect(0) ! Element
            find(1, 0); connect(0) ! State
            """);
        SCRIPT.run("promise 12: no current owner, and a member already: no such element", UNTIED, """
            connect(0); keep() = 4; rollBack() = 4
            find(4, 7); connect(0) ! Element
            find(4, 0); connect(0) ! State
            """);
    }

    private static void connectNotOfTheMemberType() {
        SCRIPT.run("promise 12: illegal state: it is of the owner type, or of another", UNTIED, """
            find(1, 0); connect(0) ! State; connect(2) ! State
            find(2, 7); connect(0) ! State
            store(2, 0, 0, 0) = 5; connect(0) ! State; connect(1) ! State; connect(2) ! State
            members(0) = 0
            find(3, 0); connect(0)
            """);
    }

    private static void connectMemberAlready() {
        SCRIPT.run("promise 12: illegal state: it is a member, of this ring or another", UNTIED, """
            connect(0); connect(0) ! State
            find(1, 0); find(4, 1); connect(0) ! State
            owner(0, 4) = 2
            connect(1); owner(1, 4) = 1
            """);
    }

    private static void connectRefused() {
        SCRIPT.run("promise 12: illegal state: it is refused; one beside the value it is not", UNTIED, """
            connect(2); find(3, 0)
            connect(2) ! State
            owner(2, 3) = 0; current(0, 0) = 3; current(2, 2) = 4
            modify(0, 4); connect(2)
            """, Script.ring(2, 2, 3, 4), """
            store(1, 6, 0, 0) = 5; connect(2)
            """, Script.ring(2, 2, 3, 4, 5));
        SCRIPT.run("promise 12: it is refused: one does not come to it where one does not stand on it", UNTIED, """
            connect(2); find(3, 0); connect(0)
            find(2, 6); find(3, 1)
            connect(2) ! State
            current(0, 0) = 3; current(1, 1) = 3; current(2, 0) = 2; current(2, 2) = 4
            """);
        SCRIPT.run("promise 12: the value in another owner's ring does not refuse it", UNTIED, """
            connect(2); find(1, 0); find(3, 0); connect(2)
            """, Script.ring(2, 1, 3), Script.ring(2, 2, 4));
    }

    private static void disconnectLeaves() {
        SCRIPT.run("promise 13: it leaves its ring of this set, and one stays where one stands", """
            type(1) = 0; type(1) = 1; set(0, 1, 1, 5) = 0; set(0, 1, 1, 5) = 1
            store(0, 0, 0, 0) = 1; store(1, 0, 0, 0) = 2; store(1, 0, 0, 0) = 3; store(1, 0, 0, 0) = 4
            find(3, 2); disconnect(0)
            owner(0, 3) = 0; owner(1, 3) = 1
            current(0, 0) = 3; current(1, 0) = 1; current(1, 1) = 3; current(2, 0) = 2; current(2, 1) = 4
            disconnect(0) ! State
            """, Script.ring(0, 1, 2, 4), Script.ring(1, 1, 2, 3, 4));
        SCRIPT.run("promise 13: its ring, not that of the current owner", """
            type(1) = 0; type(1) = 1; set(0, 1, 1, 5) = 0
            store(0, 0, 0, 0) = 1; store(1, 0, 0, 0) = 2; store(0, 0, 0, 0) = 3; store(1, 0, 0, 0) = 4
            find(2, 1); disconnect(0)
            owner(0, 2) = 0; owner(0, 4) = 3; current(2, 0) = 4
            """, Script.ring(0, 1), Script.ring(0, 3, 4));
        SCRIPT.run("promise 13: a current owner is not asked for", """
            type(1) = 0; type(1) = 1; set(0, 1, 1, 5) = 0
            store(0, 0, 0, 0) = 1; store(1, 0, 0, 0) = 2; keep() = 2; rollBack() = 2
            find(2, 1); current(2, 0) = 0; disconnect(0); owner(0, 2) = 0; current(2, 0) = 0
            """);
    }

    private static void disconnectExceptions() {
        String base = """
            type(1) = 0; type(1) = 1; set(0, 1, 1, 5) = 0; set(0, 1, 1, 2) = 1
            store(0, 0, 0, 0) = 1; store(1, 0, 0, 0) = 2
            """;
        SCRIPT.run("promise 13: illegal argument: the set, one beside those that there are", base, """
            disconnect(-1) ! Argument; disconnect(2) ! Argument
            connect(1); disconnect(1); disconnect(0)
            """);
        SCRIPT.run("promise 13: no such element: none is current of the run; illegal argument comes first", base, """
            keep() = 2; rollBack() = 2
            disconnect(0) ! Element; disconnect(1) ! Element; disconnect(2) ! Argument; disconnect(-1) ! Argument
            find(2, 0); disconnect(0)
            """);
        SCRIPT.run("promise 13: illegal state: it is no member: not yet, no more, not of the member type", base, """
            disconnect(1) ! State
            disconnect(0); disconnect(0) ! State
            find(1, 0); disconnect(0) ! State; disconnect(1) ! State
            """);
    }

    private static void disconnectNotFree() {
        for (int kind = 0; kind < 6; kind++) {
            boolean free = kind % 3 == 2;
            SCRIPT.run("promise 13: illegal state: this is not FREE, class " + kind,
                "type(1) = 0; type(1) = 1; set(0, 1, 1, " + kind + ") = 0",
                "store(0, 0, 0, 0) = 1; store(1, 0, 0, 0) = 2", kind < 3 ? "connect(0)" : "",
                free ? "disconnect(0)" : "disconnect(0) ! State", "owner(0, 2) = " + (free ? 0 : 1));
        }
    }

    private static void reconnectToAnotherRing() {
        SCRIPT.run("promise 14: it leaves its ring and joins that of the current owner; one comes to it", """
            type(1) = 0; type(1) = 1; set(0, 1, 1, 4) = 0; set(0, 1, 1, 3) = 1
            store(0, 0, 0, 0) = 1; store(1, 0, 0, 0) = 2; store(1, 0, 0, 0) = 3; store(1, 0, 0, 0) = 4
            store(0, 0, 0, 0) = 5; store(1, 0, 0, 0) = 6
            find(3, 3)
            reconnect(0)
            owner(0, 3) = 5; owner(1, 3) = 1
            current(0, 0) = 3; current(1, 1) = 3; current(2, 0) = 3; current(2, 1) = 3
            """, Script.ring(0, 1, 2, 4), Script.ring(0, 5, 6, 3), Script.ring(1, 1, 2, 3, 4), Script.ring(1, 5, 6));
        SCRIPT.run("promise 14: the last one leaves its ring: that is empty; it joins an empty one", """
            type(1) = 0; type(1) = 1; set(0, 1, 1, 5) = 0
            store(0, 0, 0, 0) = 1; store(1, 0, 0, 0) = 2; store(0, 0, 0, 0) = 3
            find(2, 1); reconnect(0)
            """, Script.ring(0, 1), Script.ring(0, 3, 2));
        for (int kind = 0; kind < 6; kind++) {
            boolean fixed = kind % 3 == 0;
            SCRIPT.run("promise 14: illegal state: this is FIXED, class " + kind,
                "type(1) = 0; type(1) = 1; set(0, 1, 1, " + kind + ") = 0",
                "store(0, 0, 0, 0) = 1; store(1, 0, 0, 0) = 2", kind < 3 ? "connect(0)" : "",
                fixed ? "reconnect(0) ! State" : "reconnect(0)", "owner(0, 2) = 1",
                "store(0, 0, 0, 0) = 3; find(2, 1)",
                fixed ? "reconnect(0) ! State" : "reconnect(0)", "owner(0, 2) = " + (fixed ? 1 : 3));
        }
    }

    /** The ring of 1 is 2, 3, 4, by any of the orders 0 to 3 (set 0); 6 is in the ring of 5. */
    private static String threeInARing(int order) {
        String behind = order == 0 ? "4, 3, 2" : "2, 3, 4";
        StringBuilder rows = new StringBuilder("type(1) = 0; type(1) = 1; set(0, 1, " + order + ", 1) = 0\n"
            + "store(0, 0, 0, 0) = 1; store(1, 0, 0, 0) = 2; store(1, 0, 0, 0) = 3; store(1, 0, 0, 0) = 4\n"
            + "store(0, 0, 0, 0) = 5; store(1, 0, 0, 0) = 6; connect(0)\n");
        for (String key : behind.split(", ")) {
            // From the owner, PRIOR comes behind all; NEXT needs the one before it.
            int from = order == 2 && !key.equals("2") ? Integer.parseInt(key) - 1 : 1;
            rows.append("find(").append(from).append(", 0); find(").append(key).append(", 0); connect(0)\n");
        }
        return rows + Script.ring(0, 1, 2, 3, 4);
    }

    private static void reconnectItsOwnRing() {
        int[][] behind = {{2, 3, 4}, {3, 2, 4}, {4, 2, 3}, {3, 4, 2}, {2, 4, 3}, {2, 3, 4}};
        for (int order = 0; order <= 3; order++) {
            boolean beforeAll = order == 0 || order == 2;
            for (int key = 2; key <= 4; key++) {
                SCRIPT.run("promise 14: current of the set itself, its own ring is meant: order " + order + ", key " + key,
                    threeInARing(order), "find(" + key + ", 0); reconnect(0); current(2, 0) = " + key,
                    Script.ring(0, 1, behind[key - 2 + (beforeAll ? 0 : 3)]), Script.ring(0, 5, 6));
            }
        }
        for (int order = 0; order <= 3; order++) {
            SCRIPT.run("promise 14: its own ring, where it is alone: order " + order, threeInARing(order),
                "find(6, 0); reconnect(0); owner(0, 6) = 5; current(2, 0) = 6",
                Script.ring(0, 5, 6), Script.ring(0, 1, 2, 3, 4));
        }
    }

    private static void reconnectByTheCurrentOne() {
        int[][] cases = {
            // order, current one of the set, the one that reconnects, and the ring of 1 behind it
            {2, 3, 2, 3, 2, 4}, {2, 4, 2, 3, 4, 2}, {2, 2, 3, 2, 3, 4}, {2, 2, 4, 2, 4, 3}, {2, 3, 4, 2, 3, 4},
            {2, 1, 2, 2, 3, 4}, {2, 1, 4, 4, 2, 3},
            {3, 3, 2, 2, 3, 4}, {3, 4, 2, 3, 2, 4}, {3, 2, 3, 3, 2, 4}, {3, 2, 4, 4, 2, 3}, {3, 3, 4, 2, 4, 3},
            {3, 1, 2, 3, 4, 2}, {3, 1, 4, 2, 3, 4}};
        for (int[] c : cases) {
            SCRIPT.run("promise 14: order " + c[0] + ", current is " + c[1] + ", " + c[2] + " comes beside it",
                threeInARing(c[0]), "find(" + c[1] + ", 0); find(" + c[2] + ", 1); reconnect(0)",
                "current(2, 0) = " + c[2], Script.ring(0, 1, c[3], c[4], c[5]));
        }
        int[][] fromOther = {{2, 2, 2, 6, 3, 4}, {2, 4, 2, 3, 4, 6}, {2, 1, 6, 2, 3, 4},
            {3, 2, 6, 2, 3, 4}, {3, 4, 2, 3, 6, 4}, {3, 1, 2, 3, 4, 6}};
        for (int[] c : fromOther) {
            SCRIPT.run("promise 14: order " + c[0] + ", current is " + c[1] + ", 6 comes from another ring",
                threeInARing(c[0]), "find(" + c[1] + ", 0); find(6, 1); reconnect(0)",
                Script.ring(0, 1, c[2], c[3], c[4], c[5]), Script.ring(0, 5));
        }
    }

    private static void reconnectSorted() {
        SCRIPT.run("promise 14: sorted, before its equals: it comes before them, in its own ring too", """
            type(1) = 0; type(1) = 1; set(0, 1, 10, 4) = 0
            store(0, 0, 0, 0) = 1; store(1, 5, 0, 0) = 2; store(1, 5, 0, 0) = 3; store(1, 4, 0, 0) = 4
            find(2, 0); reconnect(0)
            """, Script.ring(0, 1, 4, 2, 3));
        SCRIPT.run("promise 14: sorted, behind its equals: it comes behind them, in its own ring too", """
            type(1) = 0; type(1) = 1; set(0, 1, 20, 4) = 0
            store(0, 0, 0, 0) = 1; store(1, 5, 0, 0) = 2; store(1, 5, 0, 0) = 3; store(1, 6, 0, 0) = 4
            find(2, 0); reconnect(0)
            """, Script.ring(0, 1, 3, 2, 4));
    }

    private static void reconnectExceptions() {
        String base = """
            type(1) = 0; type(1) = 1; set(0, 1, 1, 4) = 0; set(0, 1, 1, 2) = 1; set(0, 1, 1, 3) = 2
            store(0, 0, 0, 0) = 1; store(1, 0, 0, 0) = 2
            """;
        SCRIPT.run("promise 14: illegal argument: the set, one beside those that there are", base, """
            reconnect(-1) ! Argument; reconnect(3) ! Argument
            reconnect(0)
            """);
        SCRIPT.run("promise 14: no such element: none is current of the run; illegal argument comes first", base, """
            keep() = 2; rollBack() = 2; find(2, 0); erase(0) = 1
            current(2, 0) = 1
            reconnect(0) ! Element; reconnect(2) ! Element; reconnect(3) ! Argument; reconnect(-1) ! Argument
            """);
        SCRIPT.run("promise 14: no such element: there is no current owner, though it is in a ring", base, """
            keep() = 2; rollBack() = 2; find(2, 7)
            reconnect(0) ! Element; reconnect(3) ! Argument
            find(1, 6); find(2, 7); reconnect(0); owner(0, 2) = 1
            """);
        SCRIPT.run("promise 14: no current owner, and no member or FIXED: no such element", base, """
            keep() = 2; rollBack() = 2; find(2, 7)
            reconnect(1) ! Element; reconnect(2) ! Element
            find(1, 7); reconnect(0) ! Element; reconnect(2) ! Element
            find(1, 0); find(2, 7)
            reconnect(1) ! State; reconnect(2) ! State
            """);
        SCRIPT.run("promise 14: illegal state: it is no member: not yet, no more, not of the member type", base, """
            reconnect(1) ! State
            connect(1); reconnect(1); disconnect(1); reconnect(1) ! State
            find(1, 0); reconnect(0) ! State; reconnect(1) ! State; reconnect(2) ! State
            """);
    }

    private static void reconnectRefused() {
        String base = """
            type(1) = 0; type(1) = 1; set(0, 1, 30, 4) = 0; set(0, 1, 1, 4) = 1
            store(0, 0, 0, 0) = 1; store(1, 5, 0, 0) = 2; store(1, 6, 0, 0) = 3
            store(0, 0, 0, 0) = 4; store(1, 5, 0, 0) = 5
            """;
        SCRIPT.run("promise 14: illegal state: it is refused in the other ring, and stays in its own", base, """
            find(2, 3); reconnect(0) ! State
            owner(0, 2) = 1; current(0, 0) = 2; current(2, 0) = 5; current(2, 1) = 5
            """, Script.ring(0, 1, 2, 3), Script.ring(0, 4, 5));
        SCRIPT.run("promise 14: one beside the value it is not refused", base, """
            find(3, 3); reconnect(0); owner(0, 3) = 4
            find(2, 3); modify(0, 4); find(4, 0); find(2, 3); reconnect(0); owner(0, 2) = 4
            """, Script.ring(0, 4, 2, 5, 3), Script.ring(0, 1));
        SCRIPT.run("promise 14: it does not refuse itself in its own ring", base, """
            find(2, 0); reconnect(0)
            find(1, 0); find(2, 3); reconnect(0)
            find(3, 0); find(2, 3); reconnect(0)
            owner(0, 2) = 1
            """, Script.ring(0, 1, 2, 3));
    }
}
