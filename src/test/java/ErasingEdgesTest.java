/** The edges of promise 15, erase; each run bears the sentence that it would miss. */
public final class ErasingEdgesTest {
    private static final Script SCRIPT = new Script();
    private static final int BOUND = 1;

    public static void main(String[] args) {
        modeIsNone();
        noSuchElement();
        alone();
        ownsARingThatIsNotEmpty();
        oneRingOfEachClass();
        emptyRings();
        chains();
        boundWouldLeaveAndNotGo();
        othersLeave();
        countedOnce();
        allThatAreThere();
        membersGoAlone();
        SCRIPT.end();
    }

    private static void modeIsNone() {
        String base = """
            type(1) = 0; type(1) = 1; set(0, 1, 1, 4) = 0
            store(0, 0, 0, 0) = 1; store(1, 0, 0, 0) = 2
            """;
        SCRIPT.run("illegal argument: mode is none of these", base, """
            erase(-1) ! Argument; erase(4) ! Argument
            erase(-2147483648) ! Argument; erase(2147483647) ! Argument
            count() = 2; current(0, 0) = 2
            """);
        for (int mode = 0; mode <= 3; mode++) {
            SCRIPT.run("mode " + mode + " is one of these", base, "erase(" + mode + ") = 1; count() = 1");
        }
        SCRIPT.run("mode is none of these and it owns members: illegal argument", base, """
            find(1, 0); erase(-1) ! Argument; erase(4) ! Argument; erase(0) ! State; erase(1) ! State
            """);
        SCRIPT.run("mode is none of these and none is current: illegal argument", base, """
            erase(0) = 1
            erase(-1) ! Argument; erase(4) ! Argument; erase(0) ! Element
            """);
    }

    private static void noSuchElement() {
        SCRIPT.run("no such element: none is current of the run, in each mode", """
            erase(0) ! Element; erase(1) ! Element; erase(2) ! Element; erase(3) ! Element
            type(1) = 0; store(0, 0, 0, 0) = 1; store(0, 0, 0, 0) = 2; erase(3) = 1
            erase(0) ! Element; erase(1) ! Element; erase(2) ! Element; erase(3) ! Element
            count() = 1; find(1, 0); erase(0) = 1; count() = 0
            """);
    }

    private static void alone() {
        SCRIPT.run("mode 0: it alone goes: the others in its ring stay in it", """
            type(1) = 0; type(1) = 1; set(0, 1, 1, 3) = 0
            store(0, 0, 0, 0) = 1; store(1, 0, 0, 0) = 2; store(1, 0, 0, 0) = 3; store(1, 0, 0, 0) = 4
            find(3, 0); erase(0) = 1
            count() = 3; owner(0, 2) = 1; owner(0, 4) = 1; find(3, 0) ! Element
            """, Script.ring(0, 1, 2, 4), "find(2, 0); erase(0) = 1", Script.ring(0, 1, 4),
            "find(4, 0); erase(0) = 1", Script.ring(0, 1), "find(1, 0); erase(0) = 1; count() = 0");
    }

    private static void ownsARingThatIsNotEmpty() {
        for (int kind = 0; kind < 6; kind++) {
            SCRIPT.run("illegal state: mode is 0 and it owns a ring that is not empty, class " + kind,
                oneMember(kind), "find(1, 0); erase(0) ! State; count() = 2; owner(0, 2) = 1; current(0, 0) = 1",
                "find(2, 0); erase(0) = 1; find(1, 0); erase(0) = 1");
        }
        SCRIPT.run("mode 0: one of its two rings is not empty, the first or the second", """
            type(1) = 0; type(1) = 1; set(0, 1, 1, 2) = 0; set(0, 1, 1, 2) = 1
            store(0, 0, 0, 0) = 1; store(1, 0, 0, 0) = 2
            connect(0); find(1, 0); erase(0) ! State
            find(2, 0); disconnect(0); connect(1); find(1, 0); erase(0) ! State
            find(2, 0); disconnect(1); find(1, 0); erase(0) = 1; count() = 1
            """);
        SCRIPT.run("mode 0: another one's ring is not empty: that does not matter", oneMember(3), """
            store(0, 0, 0, 0) = 3; erase(0) = 1; owner(0, 2) = 1
            """);
    }

    /** 2 is a member of the ring of 1. */
    private static String oneMember(int kind) {
        return "type(1) = 0; type(1) = 1; set(0, 1, 1, " + kind + ") = 0\n"
            + "store(0, 0, 0, 0) = 1; store(1, 0, 0, 0) = 2\n" + (kind < 3 ? "connect(0)\n" : "");
    }

    private static void oneRingOfEachClass() {
        for (int kind = 0; kind < 6; kind++) {
            for (int mode = 1; mode <= 3; mode++) {
                int hold = kind % 3;
                boolean memberGoes = hold < mode;
                String title = "mode " + mode + " on the owner of a member of class " + kind;
                if (mode == 1 && hold == BOUND) {
                    SCRIPT.run(title, oneMember(kind), "find(1, 0); erase(1) ! State; count() = 2; owner(0, 2) = 1");
                } else if (memberGoes) {
                    SCRIPT.run(title, oneMember(kind), "find(1, 0); erase(" + mode + ") = 2",
                        "count() = 0; find(2, 0) ! Element; current(1, 1) = 0");
                } else {
                    SCRIPT.run(title, oneMember(kind), "find(1, 0); erase(" + mode + ") = 1",
                        "count() = 1; owner(0, 2) = 0; current(1, 1) = 2; current(2, 0) = 0; find(2, 0); get(0) = 0");
                }
            }
        }
    }

    private static void emptyRings() {
        for (int kind = 0; kind < 6; kind++) {
            for (int mode = 0; mode <= 3; mode++) {
                SCRIPT.run("mode " + mode + " on the owner of an empty ring of class " + kind, oneMember(kind),
                    "store(0, 0, 0, 0) = 3; erase(" + mode + ") = 1; count() = 2; owner(0, 2) = 1");
            }
        }
    }

    /** 1 owns 2, that owns 3, that owns 4, each by a set of another class. */
    private static void chains() {
        for (int n = 0; n < 27; n++) {
            int[] kinds = {n / 9, n / 3 % 3, n % 3};
            for (int mode = 0; mode <= 3; mode++) {
                int going = 1;
                while (going < 4 && kinds[going - 1] < mode) {
                    going++;
                }
                boolean boundOneLeft = going < 4 && kinds[going - 1] == BOUND;
                boolean refused = mode == 0 || mode == 1 && boundOneLeft;
                String title = "mode " + mode + ": all members of the rings that it, or one that goes, owns: classes ";
                SCRIPT.run(title + kinds[0] + kinds[1] + kinds[2], chain(kinds), "find(1, 0)",
                    "erase(" + mode + (refused ? ") ! State" : ") = " + going),
                    "count() = " + (refused ? 4 : 4 - going),
                    refused || going >= 3 ? "" : "owner(2, 4) = 3",
                    refused || going >= 4 ? "" : "owner(" + (going - 1) + ", " + (going + 1) + ") = 0");
            }
        }
    }

    private static String chain(int[] kinds) {
        return """
            type(1) = 0; type(1) = 1; type(1) = 2; type(1) = 3
            set(0, 1, 1, %d) = 0; set(1, 2, 1, %d) = 1; set(2, 3, 1, %d) = 2
            store(0, 0, 0, 0) = 1; store(1, 0, 0, 0) = 2; connect(0)
            store(2, 0, 0, 0) = 3; connect(1); store(3, 0, 0, 0) = 4; connect(2)
            """.formatted(kinds[0], kinds[1], kinds[2]);
    }

    /** 3 is a BOUND member of 1; by set 1, FIXED, it may be a member of 1 or 2. */
    private static final String BOUND_AND_FIXED = """
        type(1) = 0; type(1) = 1; type(1) = 2
        set(0, 2, 1, 1) = 0; set(0, 2, 1, 0) = 1; set(1, 2, 1, 0) = 2
        store(0, 0, 0, 0) = 1; store(1, 0, 0, 0) = 2; store(2, 0, 0, 0) = 3; connect(0)
        """;

    private static void boundWouldLeaveAndNotGo() {
        SCRIPT.run("illegal state: mode is 1 and a member of a BOUND set would leave its ring and not go",
            BOUND_AND_FIXED, """
            find(1, 0); erase(1) ! State
            count() = 3; owner(0, 3) = 1; current(0, 0) = 1; current(2, 0) = 1
            """);
        SCRIPT.run("it leaves its ring but goes, by a FIXED set of the same owner", BOUND_AND_FIXED, """
            connect(1); find(1, 0); erase(1) = 2; count() = 1
            """);
        SCRIPT.run("it is in a FIXED ring of one that stays: it would not go", BOUND_AND_FIXED, """
            connect(2); find(1, 0); erase(1) ! State; count() = 3
            """);
        SCRIPT.run("the one that takes it along goes: it goes, and its BOUND ring stays", BOUND_AND_FIXED, """
            connect(2); find(2, 0); erase(1) = 2; count() = 1
            """, Script.ring(0, 1));
        SCRIPT.run("two BOUND members, one of them would not go", BOUND_AND_FIXED, """
            connect(1); store(2, 0, 0, 0) = 4; find(3, 0); find(4, 0); connect(0)
            find(1, 0); erase(1) ! State; count() = 4
            find(4, 0); erase(1) = 1; find(1, 0); erase(1) = 2
            """);
        SCRIPT.run("in modes 2 and 3 it goes", BOUND_AND_FIXED, """
            keep() = 3
            find(1, 0); erase(2) = 2; count() = 1
            rollBack() = 3; find(1, 0); erase(3) = 2; count() = 1
            """);
        SCRIPT.run("a BOUND member that goes by itself is not refused", BOUND_AND_FIXED, """
            erase(1) = 1; count() = 2; find(1, 0); erase(1) = 1
            """);
        SCRIPT.run("illegal state: the BOUND one is owned by one that goes along", """
            type(1) = 0; type(1) = 1; type(1) = 2
            set(0, 1, 1, 3) = 0; set(1, 2, 1, 4) = 1
            store(0, 0, 0, 0) = 1; store(1, 0, 0, 0) = 2; store(1, 0, 0, 0) = 3; store(2, 0, 0, 0) = 4
            find(1, 0); erase(1) ! State; count() = 4
            find(2, 0); erase(1) = 1
            find(1, 0); erase(1) ! State; count() = 3
            erase(2) = 3
            """);
    }

    private static void othersLeave() {
        SCRIPT.run("all other members of such rings leave them, and may join others", """
            type(1) = 0; type(1) = 1; type(1) = 2
            set(0, 1, 1, 3) = 0; set(0, 2, 1, 5) = 1; set(1, 2, 1, 2) = 2
            store(0, 0, 0, 0) = 1; store(1, 0, 0, 0) = 2; store(2, 0, 0, 0) = 3; connect(2)
            store(2, 0, 0, 0) = 4; store(2, 0, 0, 0) = 5; store(0, 0, 0, 0) = 6; store(1, 0, 0, 0) = 7
            find(3, 0); find(1, 0); erase(1) = 2
            count() = 5
            owner(1, 3) = 0; owner(2, 3) = 0; owner(1, 4) = 0; owner(1, 5) = 0; owner(0, 7) = 6
            current(1, 2) = 3; current(2, 1) = 0; current(2, 2) = 0
            find(6, 0); find(4, 0); connect(1)
            """, Script.ring(1, 6, 4), Script.ring(0, 6, 7));
        SCRIPT.run("they leave the rings of those that go alone: other rings of theirs stay", """
            type(1) = 0; type(1) = 1; set(0, 1, 1, 5) = 0; set(0, 1, 0, 5) = 1
            store(0, 0, 0, 0) = 1; store(1, 0, 0, 0) = 2; store(1, 0, 0, 0) = 3; store(0, 0, 0, 0) = 4
            find(2, 1); reconnect(0)
            owner(0, 2) = 4; owner(1, 2) = 1
            find(1, 0); erase(2) = 1
            owner(0, 2) = 4; owner(1, 2) = 0; owner(0, 3) = 0; owner(1, 3) = 0
            """, Script.ring(0, 4, 2), Script.ring(1, 4));
    }

    private static void countedOnce() {
        SCRIPT.run("how many records go in all: one that goes by two rings is one", """
            type(1) = 0; type(1) = 1; type(1) = 2
            set(0, 1, 1, 3) = 0; set(0, 1, 1, 4) = 1; set(1, 2, 1, 3) = 2; set(0, 2, 1, 5) = 3
            store(0, 0, 0, 0) = 1; store(1, 0, 0, 0) = 2; store(1, 0, 0, 0) = 3; store(2, 0, 0, 0) = 4
            keep() = 4
            find(1, 0); erase(3) = 4; count() = 0
            rollBack() = 4; find(1, 0); erase(2) = 4; count() = 0
            rollBack() = 4; find(1, 0); erase(1) = 4; count() = 0
            """);
        SCRIPT.run("records that own each other go once, from each of them", """
            type(1) = 0; type(1) = 1; set(0, 1, 1, 0) = 0; set(1, 0, 1, 1) = 1
            store(0, 0, 0, 0) = 1; store(1, 0, 0, 0) = 2; connect(0); find(1, 2); connect(1)
            keep() = 2
            find(1, 0); erase(0) ! State; erase(1) = 2
            rollBack() = 2; find(1, 0); erase(2) = 2
            rollBack() = 2; find(2, 0); erase(0) ! State; erase(1) ! State; erase(2) = 2
            rollBack() = 2; find(2, 0); erase(3) = 2; count() = 0
            """);
    }

    private static void allThatAreThere() {
        StringBuilder flat = new StringBuilder("type(1) = 0; type(1) = 1; set(0, 1, 1, 3) = 0\n");
        for (int key = 1; key <= 24; key++) {
            flat.append("store(").append(key == 1 ? 0 : 1).append(", 0, 0, 0) = ").append(key).append('\n');
        }
        SCRIPT.run("how many records go in all: 24 in one ring", flat.toString(), """
            find(1, 0); erase(0) ! State; erase(1) = 24; count() = 0
            """);
        StringBuilder deep = new StringBuilder("""
            type(1) = 0; type(1) = 1; set(0, 1, 1, 0) = 0; set(1, 0, 1, 0) = 1
            store(0, 0, 0, 0) = 1
            """);
        for (int key = 2; key <= 24; key++) {
            // The new one comes into no ring by itself, but the set's current one is its owner to be.
            deep.append("store(").append((key + 1) % 2).append(", 0, 0, 0) = ").append(key)
                .append("; find(").append(key - 1).append(", 0); find(").append(key)
                .append(", ").append(key % 2 == 0 ? 1 : 2).append("); connect(").append(key % 2).append(")\n");
        }
        SCRIPT.run("how many records go in all: 24, each owned by the one before it", deep.toString(), """
            owner(0, 2) = 1; owner(1, 3) = 2; owner(0, 24) = 23
            keep() = 24
            find(2, 0); erase(1) = 23; count() = 1
            rollBack() = 24; find(1, 0); erase(1) = 24; count() = 0
            rollBack() = 24; find(24, 0); erase(0) = 1; find(23, 0); erase(0) = 1; find(1, 0); erase(0) ! State
            """);
    }

    private static void membersGoAlone() {
        for (int kind = 0; kind < 6; kind++) {
            for (int mode = 0; mode <= 3; mode++) {
                SCRIPT.run("mode " + mode + ": a member of class " + kind + " goes, its owner stays", oneMember(kind),
                    "find(2, 0); erase(" + mode + ") = 1; count() = 1; current(2, 0) = 1; current(1, 0) = 1",
                    Script.ring(0, 1));
            }
        }
        SCRIPT.run("the class is that of the ring's set: FREE in one, FIXED in another", """
            type(1) = 0; type(1) = 1; set(0, 1, 1, 2) = 0; set(0, 1, 1, 0) = 1
            store(0, 0, 0, 0) = 1; store(1, 0, 0, 0) = 2; connect(0)
            store(0, 0, 0, 0) = 3; find(2, 1); connect(1)
            keep() = 3
            find(1, 0); erase(1) = 1; owner(0, 2) = 0; owner(1, 2) = 3
            rollBack() = 3; find(3, 0); erase(1) = 2; count() = 1
            """, Script.ring(0, 1));
    }
}
