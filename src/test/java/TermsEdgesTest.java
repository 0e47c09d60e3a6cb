/** The edges that "What it is" and "Terms" name; each run bears the sentence that it would miss. */
public final class TermsEdgesTest {
    private static final Script SCRIPT = new Script();

    private static final String OWNERS_AND_MEMBERS = "type(1) = 0; type(1) = 1\n";

    public static void main(String[] args) {
        callsOfAnObject();
        ringsAtFirstEmpty();
        oneRingOfASetAtMost();
        first();
        last();
        next();
        prior();
        sorted();
        classes();
        currentAtFirstNone();
        currentOwner();
        toCome();
        leavesItsRing();
        goesFromItsRing();
        nearestThatStays();
        ownerGoes();
        currentOfRunOrTypeGoes();
        comesIntoAnotherRing();
        noSuchTypeSetOrField();
        noSuchRecordOrCurrentOwner();
        SCRIPT.end();
    }

    private static void callsOfAnObject() {
        StringBuilder rows = new StringBuilder("type(1) = 0\n");
        for (int key = 1; key <= 255; key++) {
            rows.append("store(0, ").append(key).append(", 0, 0) = ").append(key).append("; erase(0) = 1\n");
        }
        SCRIPT.run("an object is used for at most 512 calls: the 512th is answered still",
            rows.toString(), "store(0, 0, 0, 0) = 256");
    }

    private static void ringsAtFirstEmpty() {
        SCRIPT.run("every record of its owner type owns a ring, at first empty", OWNERS_AND_MEMBERS, """
            set(0, 1, 1, 0) = 0; set(0, 1, 1, 3) = 1
            store(0, 0, 0, 0) = 1
            members(0) = 0; members(1) = 0
            move(0, 0) ! Element; move(0, 1) ! Element; move(0, 2) ! Element; move(0, 3) ! Element
            scan(0, 0, 0) ! Element
            erase(0) = 1
            store(0, 0, 0, 0) = 2
            store(1, 0, 0, 0) = 3
            members(0) = 0; members(1) = 1
            store(0, 0, 0, 0) = 4
            members(0) = 0; members(1) = 0
            """, Script.ring(1, 2, 3), Script.ring(1, 4), Script.ring(0, 2), Script.ring(0, 4));
    }

    private static void oneRingOfASetAtMost() {
        SCRIPT.run("a record is in one ring of a set at most, but may be in a ring of each set", OWNERS_AND_MEMBERS, """
            set(0, 1, 1, 2) = 0; set(0, 1, 1, 2) = 1
            store(0, 0, 0, 0) = 1; store(0, 0, 0, 0) = 2; store(1, 0, 0, 0) = 3
            connect(0)
            owner(0, 3) = 2
            connect(0) ! State
            find(1, 0); find(3, 1)
            members(0) = 0
            connect(0) ! State
            owner(0, 3) = 2
            connect(1)
            owner(0, 3) = 2; owner(1, 3) = 1
            find(1, 0); find(3, 1)
            reconnect(0)
            owner(0, 3) = 1; owner(1, 3) = 1
            """, Script.ring(0, 1, 3), Script.ring(0, 2), Script.ring(1, 1, 3), Script.ring(1, 2));
    }

    private static void first() {
        SCRIPT.run("0 FIRST: before all, of none, of one, of two; wherever one stands", OWNERS_AND_MEMBERS, """
            set(0, 1, 0, 3) = 0
            store(0, 0, 0, 0) = 1; store(1, 0, 0, 0) = 2
            """, Script.ring(0, 1, 2), "store(1, 0, 0, 0) = 3", Script.ring(0, 1, 3, 2), """
            find(2, 0); store(1, 0, 0, 0) = 4
            """, Script.ring(0, 1, 4, 3, 2), """
            find(3, 0); store(1, 0, 0, 0) = 5
            """, Script.ring(0, 1, 5, 4, 3, 2));
    }

    private static void last() {
        SCRIPT.run("1 LAST: behind all, of none, of one, of two; wherever one stands", OWNERS_AND_MEMBERS, """
            set(0, 1, 1, 3) = 0
            store(0, 0, 0, 0) = 1; store(1, 0, 0, 0) = 2
            """, Script.ring(0, 1, 2), "store(1, 0, 0, 0) = 3", Script.ring(0, 1, 2, 3), """
            find(2, 0); store(1, 0, 0, 0) = 4
            """, Script.ring(0, 1, 2, 3, 4), """
            find(1, 0); store(1, 0, 0, 0) = 5
            """, Script.ring(0, 1, 2, 3, 4, 5));
    }

    private static void next() {
        SCRIPT.run("2 NEXT: behind the current one: the only, the last, the first, a middle one", OWNERS_AND_MEMBERS, """
            set(0, 1, 2, 3) = 0
            store(0, 0, 0, 0) = 1; store(1, 0, 0, 0) = 2; store(1, 0, 0, 0) = 3
            """, Script.ring(0, 1, 2, 3), "find(3, 0); store(1, 0, 0, 0) = 4",
            Script.ring(0, 1, 2, 3, 4), "find(2, 0); store(1, 0, 0, 0) = 5",
            Script.ring(0, 1, 2, 5, 3, 4), "find(3, 0); store(1, 0, 0, 0) = 6",
            Script.ring(0, 1, 2, 5, 3, 6, 4));
        SCRIPT.run("2 NEXT: before all otherwise: the owner is current", OWNERS_AND_MEMBERS, """
            set(0, 1, 2, 3) = 0
            store(0, 0, 0, 0) = 1; store(1, 0, 0, 0) = 2
            find(1, 0); store(1, 0, 0, 0) = 3
            """, Script.ring(0, 1, 3, 2), "find(1, 0); store(1, 0, 0, 0) = 4", Script.ring(0, 1, 4, 3, 2), """
            store(0, 0, 0, 0) = 5; store(1, 0, 0, 0) = 6
            """, Script.ring(0, 5, 6), Script.ring(0, 1, 4, 3, 2));
    }

    private static void prior() {
        SCRIPT.run("3 PRIOR: before the current one: the only, the first, the last, a middle one", OWNERS_AND_MEMBERS, """
            set(0, 1, 3, 3) = 0
            store(0, 0, 0, 0) = 1; store(1, 0, 0, 0) = 2; store(1, 0, 0, 0) = 3
            """, Script.ring(0, 1, 3, 2), "find(3, 0); store(1, 0, 0, 0) = 4",
            Script.ring(0, 1, 4, 3, 2), "find(2, 0); store(1, 0, 0, 0) = 5",
            Script.ring(0, 1, 4, 3, 5, 2), "find(3, 0); store(1, 0, 0, 0) = 6",
            Script.ring(0, 1, 4, 6, 3, 5, 2));
        SCRIPT.run("3 PRIOR: behind all otherwise: the owner is current", OWNERS_AND_MEMBERS, """
            set(0, 1, 3, 3) = 0
            store(0, 0, 0, 0) = 1; store(1, 0, 0, 0) = 2
            find(1, 0); store(1, 0, 0, 0) = 3
            """, Script.ring(0, 1, 2, 3), "find(1, 0); store(1, 0, 0, 0) = 4", Script.ring(0, 1, 2, 3, 4), """
            store(0, 0, 0, 0) = 5; store(1, 0, 0, 0) = 6
            """, Script.ring(0, 5, 6), Script.ring(0, 1, 2, 3, 4));
    }

    private static void sorted() {
        for (int field = 0; field < 3; field++) {
            String base = sortedBase(10 + field, field);
            SCRIPT.run("1" + field + ": sorted, of those with the same value before them", base,
                withValue(field, 5, "= 7"), Script.ring(0, 1, 5, 3, 7, 2, 4, 6),
                withValue(field, 5, "= 8"), Script.ring(0, 1, 5, 3, 8, 7, 2, 4, 6),
                withValue(field, Integer.MIN_VALUE, "= 9"), Script.ring(0, 1, 9, 5, 3, 8, 7, 2, 4, 6),
                withValue(field, Integer.MAX_VALUE, "= 10"), Script.ring(0, 1, 9, 5, 3, 8, 7, 2, 4, 10, 6));
            base = sortedBase(20 + field, field);
            SCRIPT.run("2" + field + ": sorted, of those with the same value behind them", base,
                withValue(field, 5, "= 7"), Script.ring(0, 1, 5, 3, 2, 7, 4, 6),
                withValue(field, 5, "= 8"), Script.ring(0, 1, 5, 3, 2, 7, 8, 4, 6),
                withValue(field, Integer.MIN_VALUE, "= 9"), Script.ring(0, 1, 5, 9, 3, 2, 7, 8, 4, 6),
                withValue(field, Integer.MAX_VALUE, "= 10"), Script.ring(0, 1, 5, 9, 3, 2, 7, 8, 4, 6, 10));
            base = sortedBase(30 + field, field);
            SCRIPT.run("3" + field + ": sorted, there may be none with the same value", base,
                withValue(field, 5, "! State"), withValue(field, 4, "! State"), withValue(field, 6, "! State"),
                withValue(field, Integer.MIN_VALUE, "! State"), withValue(field, Integer.MAX_VALUE, "! State"),
                Script.ring(0, 1, 5, 3, 2, 4, 6),
                withValue(field, 3, "= 7"), withValue(field, 7, "= 8"),
                withValue(field, Integer.MIN_VALUE + 1, "= 9"), withValue(field, Integer.MAX_VALUE - 1, "= 10"),
                Script.ring(0, 1, 5, 9, 7, 3, 2, 4, 8, 10, 6));
        }
    }

    /** The ring of 1 becomes 5, 3, 2, 4, 6, with the values least, 4, 5, 6, greatest. */
    private static String sortedBase(int order, int field) {
        return "type(1) = 0; type(3) = 1; set(0, 1, " + order + ", 3) = 0; store(0, 0, 0, 0) = 1\n"
            + withValue(field, 5, "= 2") + Script.ring(0, 1, 2)
            + withValue(field, 4, "= 3") + Script.ring(0, 1, 3, 2)
            + withValue(field, 6, "= 4") + Script.ring(0, 1, 3, 2, 4)
            + withValue(field, Integer.MIN_VALUE, "= 5") + Script.ring(0, 1, 5, 3, 2, 4)
            + withValue(field, Integer.MAX_VALUE, "= 6") + Script.ring(0, 1, 5, 3, 2, 4, 6);
    }

    /** The other fields have the same value in all, so that a sort by one of them shows. */
    private static String withValue(int field, int value, String end) {
        int[] f = {1, 1, 1};
        f[field] = value;
        return "store(1, " + f[0] + ", " + f[1] + ", " + f[2] + ") " + end + "\n";
    }

    private static void classes() {
        for (int kind = 0; kind < 6; kind++) {
            boolean automatic = kind >= 3;
            boolean fixed = kind == 0 || kind == 3;
            boolean free = kind == 2 || kind == 5;
            int ownerBehindReconnect = fixed ? 2 : 1;
            SCRIPT.run("class " + kind + ": does it join, stay in its ring, stay in some ring, or leave?",
                OWNERS_AND_MEMBERS, "set(0, 1, 1, " + kind + ") = 0", """
                store(0, 0, 0, 0) = 1; store(0, 0, 0, 0) = 2; store(1, 0, 0, 0) = 3
                """,
                "owner(0, 3) = " + (automatic ? 2 : 0), "current(2, 0) = " + (automatic ? 3 : 2),
                automatic ? "connect(0) ! State" : "connect(0)", """
                owner(0, 3) = 2
                find(1, 0); find(3, 1)
                """, fixed ? "reconnect(0) ! State" : "reconnect(0)",
                "owner(0, 3) = " + ownerBehindReconnect,
                free ? "disconnect(0)" : "disconnect(0) ! State",
                "owner(0, 3) = " + (free ? 0 : ownerBehindReconnect));
        }
    }

    private static void currentAtFirstNone() {
        SCRIPT.run("current is a record, or none (at first): of the run, of each type, and of each set", """
            current(0, 0) = 0
            type(1) = 0; type(1) = 1; type(1) = 2; type(1) = 3
            set(0, 1, 0, 0) = 0; set(0, 1, 0, 0) = 1; set(0, 1, 0, 0) = 2; set(0, 1, 0, 0) = 3; set(0, 1, 0, 0) = 4
            current(0, 0) = 0
            current(1, 0) = 0; current(1, 1) = 0; current(1, 2) = 0; current(1, 3) = 0
            current(2, 0) = 0; current(2, 1) = 0; current(2, 2) = 0; current(2, 3) = 0; current(2, 4) = 0
            store(0, 0, 0, 0) = 1
            current(0, 0) = 1
            current(1, 0) = 1; current(1, 1) = 0; current(1, 2) = 0; current(1, 3) = 0
            current(2, 0) = 1; current(2, 4) = 1
            """);
    }

    private static void currentOwner() {
        SCRIPT.run("the current owner is the current record of the set, or else the owner of its ring", OWNERS_AND_MEMBERS, """
            set(0, 1, 1, 2) = 0
            move(0, 4) ! Element; members(0) ! Element
            store(1, 0, 0, 0) = 1
            move(0, 4) ! Element; members(0) ! Element; connect(0) ! Element
            store(0, 0, 0, 0) = 2; store(0, 0, 0, 0) = 3
            find(1, 0); connect(0)
            members(0) = 1
            move(0, 4) = 3
            find(2, 0)
            members(0) = 0
            find(1, 0)
            members(0) = 1
            move(0, 4) = 3; move(0, 4) = 3
            """);
    }

    private static void toCome() {
        String currents = "current(0, 0) = %d; current(1, 0) = %d; current(1, 1) = %d; current(1, 2) = 0\n"
            + "current(2, 0) = %d; current(2, 1) = %d; current(2, 2) = %d; current(2, 3) = %d; current(2, 4) = %d\n";
        SCRIPT.run("to come to a record: the run, its type, each set that it owns in or is a member in, no other", """
            type(1) = 0; type(1) = 1; type(1) = 2
            set(0, 1, 1, 0) = 0; set(0, 1, 1, 0) = 1; set(1, 2, 1, 0) = 2; set(1, 0, 1, 0) = 3; set(0, 2, 1, 0) = 4
            store(1, 0, 0, 0) = 1
            """, currents.formatted(1, 0, 1, 0, 0, 1, 1, 0), """
            store(0, 0, 0, 0) = 2
            """, currents.formatted(2, 2, 1, 2, 2, 1, 1, 2), """
            find(1, 0)
            """, currents.formatted(1, 2, 1, 2, 2, 1, 1, 2), """
            connect(0)
            """, currents.formatted(1, 2, 1, 1, 2, 1, 1, 2), """
            store(1, 0, 0, 0) = 3
            """, currents.formatted(3, 2, 3, 1, 2, 3, 3, 2), """
            find(2, 0)
            """, currents.formatted(2, 2, 3, 2, 2, 3, 3, 2), """
            find(1, 0)
            """, currents.formatted(1, 2, 1, 1, 2, 1, 1, 2));
    }

    /** The rings of 1: 2, 3, 4 in set 0, and 4, 3, 2 in set 1. */
    private static final String TWO_WAYS = OWNERS_AND_MEMBERS + """
        set(0, 1, 1, 5) = 0; set(0, 1, 0, 5) = 1
        store(0, 0, 0, 0) = 1; store(1, 0, 0, 0) = 2; store(1, 0, 0, 0) = 3; store(1, 0, 0, 0) = 4
        """;

    private static void leavesItsRing() {
        SCRIPT.run("current leaves: the one before it is current, of this set alone", TWO_WAYS, """
            find(3, 0); disconnect(0)
            current(0, 0) = 3; current(1, 1) = 3; current(2, 0) = 2; current(2, 1) = 3
            """);
        SCRIPT.run("current leaves, the last one: the one before it is current", TWO_WAYS, """
            find(4, 0); disconnect(0)
            current(2, 0) = 3; current(2, 1) = 4
            """);
        SCRIPT.run("current leaves, the first one: the owner is current, not the one behind it", TWO_WAYS, """
            find(2, 0); disconnect(0)
            current(2, 0) = 1; current(2, 1) = 2
            disconnect(1)
            current(2, 1) = 3
            find(4, 0); disconnect(1)
            current(2, 0) = 4; current(2, 1) = 1
            """);
        SCRIPT.run("current leaves, the only one: the owner is current", TWO_WAYS, """
            find(2, 0); disconnect(0)
            find(3, 0); disconnect(0)
            find(4, 0); disconnect(0)
            current(2, 0) = 1
            members(0) = 0
            """);
        SCRIPT.run("another one than the current one leaves: the current one stays so", TWO_WAYS, """
            find(3, 0); find(2, 3); disconnect(0)
            current(0, 0) = 2; current(2, 0) = 3; current(2, 1) = 3
            find(4, 3); disconnect(0)
            current(0, 0) = 4; current(2, 0) = 3; current(2, 1) = 3
            find(1, 0); find(3, 3); disconnect(0)
            current(0, 0) = 3; current(2, 0) = 1; current(2, 1) = 1
            """);
        SCRIPT.run("none is current and one leaves: none is current still", TWO_WAYS, """
            keep() = 4; rollBack() = 4
            find(3, 3); disconnect(0)
            current(0, 0) = 3; current(2, 0) = 0; current(2, 1) = 0
            """);
    }

    private static void goesFromItsRing() {
        SCRIPT.run("current goes: the one before it in each set's ring", TWO_WAYS, """
            find(3, 0); erase(0) = 1
            current(2, 0) = 2; current(2, 1) = 4
            """);
        SCRIPT.run("current goes, the last one here, the first one there", TWO_WAYS, """
            find(4, 0); erase(0) = 1
            current(2, 0) = 3; current(2, 1) = 1
            """);
        SCRIPT.run("current goes, the first one here, the last one there", TWO_WAYS, """
            find(2, 0); erase(0) = 1
            current(2, 0) = 1; current(2, 1) = 3
            """);
        SCRIPT.run("another one than the current one goes: the current one stays so", TWO_WAYS, """
            find(3, 0); find(2, 3); erase(0) = 1
            current(2, 0) = 3; current(2, 1) = 3
            find(4, 3); erase(0) = 1
            current(2, 0) = 3; current(2, 1) = 3
            """);
        SCRIPT.run("a member goes while its owner is current: the owner stays so", TWO_WAYS, """
            find(1, 0); find(3, 3); erase(0) = 1
            current(2, 0) = 1; current(2, 1) = 1; current(1, 0) = 1
            """);
        SCRIPT.run("none is current of a set and one goes: none is current still", TWO_WAYS, """
            keep() = 4; rollBack() = 4
            find(3, 3); erase(0) = 1
            current(2, 0) = 0; current(2, 1) = 0
            """);
    }

    /** The ring of 1 in set 0: 3, 4, 5, 6; the members of 2 in set 1, which go with it, are joined by each run. */
    private static final String GOING_WITH_ANOTHER = """
        type(1) = 0; type(1) = 1; type(1) = 2
        set(0, 2, 1, 5) = 0; set(1, 2, 1, 0) = 1
        store(0, 0, 0, 0) = 1; store(1, 0, 0, 0) = 2
        store(2, 0, 0, 0) = 3; store(2, 0, 0, 0) = 4; store(2, 0, 0, 0) = 5; store(2, 0, 0, 0) = 6
        """;

    private static void nearestThatStays() {
        SCRIPT.run("the nearest one before it that stays: the one right before it stays", GOING_WITH_ANOTHER, """
            find(5, 0); connect(1); find(2, 0); erase(1) = 2
            current(2, 0) = 4; current(2, 1) = 0
            """, Script.ring(0, 1, 3, 4, 6));
        SCRIPT.run("the nearest one before it that stays: the one between goes too", GOING_WITH_ANOTHER, """
            find(4, 0); connect(1); find(5, 0); connect(1); find(2, 0); erase(1) = 3
            current(2, 0) = 3; current(2, 1) = 0
            """, Script.ring(0, 1, 3, 6));
        SCRIPT.run("the nearest one before it that stays: two between go too", GOING_WITH_ANOTHER, """
            find(4, 0); connect(1); find(5, 0); connect(1); find(6, 0); connect(1); find(2, 0); erase(1) = 4
            current(2, 0) = 3
            """, Script.ring(0, 1, 3));
        SCRIPT.run("the nearest, not the first: one farther off goes too", GOING_WITH_ANOTHER, """
            find(3, 0); connect(1); find(5, 0); connect(1); find(2, 0); erase(1) = 3
            current(2, 0) = 4
            """, Script.ring(0, 1, 4, 6));
        SCRIPT.run("if there is none that stays before it, the owner", GOING_WITH_ANOTHER, """
            find(3, 0); connect(1); find(4, 0); connect(1); find(5, 0); connect(1); find(2, 0); erase(1) = 4
            current(2, 0) = 1
            """, Script.ring(0, 1, 6));
        SCRIPT.run("those before it go, but it stays", GOING_WITH_ANOTHER, """
            find(3, 0); connect(1); find(4, 0); connect(1); find(5, 0); find(2, 0); erase(1) = 3
            current(2, 0) = 5; current(1, 2) = 5
            """, Script.ring(0, 1, 5, 6));
    }

    private static void ownerGoes() {
        SCRIPT.run("none, if the owner goes: the current one leaves its ring", TWO_WAYS, """
            find(1, 3); erase(1) = 1
            current(2, 0) = 0; current(2, 1) = 0; current(1, 1) = 4; count() = 3
            owner(0, 2) = 0; owner(0, 3) = 0; owner(0, 4) = 0
            """);
        SCRIPT.run("none, if the owner goes: the current one goes with it", TWO_WAYS, """
            find(1, 3); erase(3) = 4
            current(2, 0) = 0; current(2, 1) = 0; current(1, 1) = 0; count() = 0
            """);
        SCRIPT.run("when it is the owner that goes, none, whether its ring is empty or not", TWO_WAYS, """
            find(1, 0); erase(2) = 1
            current(2, 0) = 0; current(2, 1) = 0
            store(0, 0, 0, 0) = 5
            current(2, 0) = 5
            erase(0) = 1
            current(2, 0) = 0; current(2, 1) = 0
            """);
        SCRIPT.run("another owner goes: the current one of the set stays so", TWO_WAYS, """
            store(0, 0, 0, 0) = 5
            find(3, 0); find(5, 3); erase(3) = 1
            current(2, 0) = 3; current(2, 1) = 3
            store(0, 0, 0, 0) = 6
            find(1, 3); erase(1) = 1
            current(2, 0) = 6; current(2, 1) = 6
            """);
    }

    private static void currentOfRunOrTypeGoes() {
        SCRIPT.run("when a record goes that is current of the run or of its type, none is", TWO_WAYS, """
            find(3, 0); erase(0) = 1
            current(0, 0) = 0; current(1, 0) = 1; current(1, 1) = 0
            get(0) ! Element
            """);
        SCRIPT.run("one that is current of its type but not of the run goes along", TWO_WAYS, """
            find(1, 0)
            current(1, 1) = 4
            erase(3) = 4
            current(0, 0) = 0; current(1, 0) = 0; current(1, 1) = 0
            """);
        SCRIPT.run("one that is current of its type and does not go stays so", TWO_WAYS, """
            find(3, 0); find(1, 0); erase(1) = 1
            current(0, 0) = 0; current(1, 0) = 0; current(1, 1) = 3
            """);
    }

    private static void comesIntoAnotherRing() {
        SCRIPT.run("without coming into another one: who changes the ring stays current", TWO_WAYS, """
            store(0, 0, 0, 0) = 5
            find(3, 1); reconnect(0)
            current(2, 0) = 3; current(2, 1) = 3; owner(0, 3) = 5
            reconnect(0)
            current(2, 0) = 3; owner(0, 3) = 5
            """, Script.ring(0, 1, 2, 4), Script.ring(0, 5, 3));
    }

    private static void noSuchTypeSetOrField() {
        String base = """
            type(2) = 0; type(1) = 1
            set(0, 1, 1, 2) = 0; set(1, 0, 1, 2) = 1
            store(0, 0, 0, 0) = 1; store(1, 0, 0, 0) = 2; connect(0)
            """;
        for (int none : new int[] {Integer.MIN_VALUE, -1, 2, Integer.MAX_VALUE}) {
            SCRIPT.run("illegal argument: there is no such type, " + none, base, """
                store(%1$d, 0, 0, 0) ! Argument
                seek(%1$d, 0, 0) ! Argument
                current(1, %1$d) ! Argument
                set(%1$d, 1, 0, 0) ! Argument; set(0, %1$d, 0, 0) ! Argument
                """.formatted(none));
            SCRIPT.run("illegal argument: there is no such set, " + none, base, """
                move(%1$d, 0) ! Argument; scan(%1$d, 0, 0) ! Argument
                current(2, %1$d) ! Argument
                connect(%1$d) ! Argument; disconnect(%1$d) ! Argument; reconnect(%1$d) ! Argument
                members(%1$d) ! Argument; owner(%1$d, 1) ! Argument
                """.formatted(none));
            SCRIPT.run("illegal argument: there is no such field of type 0, " + none, base, """
                seek(0, %1$d, 0) ! Argument; scan(1, %1$d, 0) ! Argument
                find(1, 0); get(%1$d) ! Argument; modify(%1$d, 0) ! Argument
                """.formatted(none));
        }
        SCRIPT.run("the last type, set and field that there are", base, """
            current(1, 1) = 2; current(2, 1) = 2; members(1) = 0; owner(1, 1) = 0
            seek(1, 0, 0) = 2; seek(0, 1, 0) = 1; find(1, 0); get(1) = 0; modify(1, 3); get(1) = 3
            connect(1); find(2, 0); scan(1, 1, 3) = 1; find(2, 0); move(1, 0) = 1
            reconnect(1); disconnect(1)
            store(1, 0, 0, 0) = 3
            """);
        SCRIPT.run("a field is one of the type in question, not of another", base, """
            seek(1, 1, 0) ! Argument; scan(0, 1, 0) ! Argument
            find(2, 0); get(1) ! Argument; modify(1, 0) ! Argument
            """);
    }

    private static void noSuchRecordOrCurrentOwner() {
        SCRIPT.run("no such element: a record is asked for and there is none", OWNERS_AND_MEMBERS, """
            set(0, 1, 1, 2) = 0
            find(1, 0) ! Element; seek(0, 0, 0) ! Element; get(0) ! Element; modify(0, 0) ! Element
            disconnect(0) ! Element; erase(0) ! Element; owner(0, 1) ! Element
            store(0, 0, 0, 0) = 1
            find(1, 0); seek(0, 0, 0) = 1; get(0) = 0; modify(0, 0); owner(0, 1) = 0; erase(0) = 1
            find(1, 0) ! Element; seek(0, 0, 0) ! Element; get(0) ! Element; modify(0, 0) ! Element
            disconnect(0) ! Element; erase(0) ! Element; owner(0, 1) ! Element
            """);
        SCRIPT.run("no such element: a current owner is asked for and there is none", OWNERS_AND_MEMBERS, """
            set(0, 1, 1, 5) = 0
            store(1, 0, 0, 0) ! Element
            store(0, 0, 0, 0) = 1; store(1, 0, 0, 0) = 2; disconnect(0)
            keep() = 2; rollBack() = 2
            find(2, 0)
            store(1, 0, 0, 0) ! Element; move(0, 0) ! Element; move(0, 4) ! Element; scan(0, 0, 0) ! Element
            connect(0) ! Element; reconnect(0) ! Element; members(0) ! Element
            find(1, 0); find(2, 0)
            members(0) = 0; move(0, 4) = 1; find(2, 0); connect(0); reconnect(0); store(1, 0, 0, 0) = 3
            """);
    }
}
