/**
 * At most 4 types, 5 sets, 3 fields and 24 records: each call with the last of each that there
 * can be, and with the first record and the 24th.
 */
public final class LimitsEdgesTest {
    private static final Script SCRIPT = new Script();

    public static void main(String[] args) {
        firstAndLastRecord();
        standing();
        sorting();
        besideTheFirstRecord();
        aRingOf23();
        storing();
        changing();
        erasing();
        keeping();
        whatHasGone();
        SCRIPT.end();
    }

    /**
     * 24 records. Key 2, of the third type, is an owner in the fifth set; keys 1 and 24, of the fourth
     * type, are its members there, with 10 and 20 in their third field. The others are of the first type.
     */
    private static String full(int order, int kind) {
        StringBuilder rows = new StringBuilder("type(1) = 0; type(1) = 1; type(1) = 2; type(3) = 3\n");
        for (int s = 0; s < 4; s++) {
            rows.append("set(0, 1, 1, 0) = ").append(s).append('\n');
        }
        rows.append("set(2, 3, ").append(order).append(", ").append(kind).append(") = 4\n");
        rows.append("store(3, 1, 1, 10) = 1; store(2, 0, 0, 0) = 2\n");
        for (int key = 3; key <= 23; key++) {
            rows.append("store(0, 0, 0, 0) = ").append(key).append('\n');
        }
        return rows + "store(3, 1, 1, 20) = 24; find(1, 0); connect(4); find(24, 0); connect(4)\n";
    }

    private static void firstAndLastRecord() {
        SCRIPT.run("the first record and the 24th are members of one ring of the fifth set", full(32, 2),
            "count() = 24; store(0, 0, 0, 0) ! State; owner(4, 1) = 2; owner(4, 24) = 2", Script.ring(4, 2, 1, 24));
    }

    private static void standing() {
        SCRIPT.run("find, seek, move, scan, current, get", full(32, 2), """
            current(0, 0) = 24; current(1, 3) = 24; current(2, 4) = 24; get(2) = 20
            find(1, 16); current(0, 0) = 1; current(1, 3) = 1; current(2, 4) = 24; get(2) = 10
            find(24, 0); seek(3, 2, 10) = 1; current(2, 4) = 1
            seek(3, 2, 20) = 24; current(2, 4) = 24; get(2) = 20
            find(2, 0); scan(4, 2, 20) = 24; find(2, 0); scan(4, 2, 10) = 1; scan(4, 2, 10) ! Element
            scan(4, 2, 20) = 24; scan(4, 2, 20) ! Element
            move(4, 4) = 2; move(4, 0) = 1; move(4, 1) = 24; move(4, 3) = 1; move(4, 2) = 24
            find(25, 0) ! Element; seek(4, 0, 0) ! Argument; seek(3, 3, 0) ! Argument
            move(5, 0) ! Argument; scan(5, 0, 0) ! Argument; scan(4, 3, 0) ! Argument
            """);
    }

    private static void sorting() {
        SCRIPT.run("modify by the third field, in the fifth set, the 24th record", full(32, 2), """
            modify(2, 10) ! State; modify(2, 9)
            """, Script.ring(4, 2, 24, 1), "find(24, 0); modify(2, 11)", Script.ring(4, 2, 1, 24));
        SCRIPT.run("modify by the third field, in the fifth set, the first record", full(32, 2), """
            find(1, 0); modify(2, 20) ! State; modify(2, 21)
            """, Script.ring(4, 2, 24, 1), "find(1, 0); modify(2, 19)", Script.ring(4, 2, 1, 24));
        SCRIPT.run("modify by another field: the fifth set is not sorted by that", full(32, 2), """
            modify(0, 0); modify(1, 0)
            """, Script.ring(4, 2, 1, 24), "find(24, 0); modify(0, 10); modify(1, 10); get(0) = 10; get(1) = 10");
        SCRIPT.run("among equals, before them", full(12, 2), "modify(2, 10)", Script.ring(4, 2, 24, 1),
            "find(1, 0); modify(2, 9); modify(2, 10)", Script.ring(4, 2, 1, 24));
        SCRIPT.run("among equals, behind them", full(22, 2), "find(1, 0); modify(2, 20)", Script.ring(4, 2, 24, 1),
            "find(24, 0); modify(2, 21); modify(2, 20)", Script.ring(4, 2, 1, 24));
        SCRIPT.run("modify is refused in the first of five sets as in the last", """
            type(1) = 0; type(2) = 1
            set(0, 1, 30, 3) = 0; set(0, 1, 1, 3) = 1; set(0, 1, 1, 3) = 2; set(0, 1, 1, 3) = 3; set(0, 1, 31, 3) = 4
            store(0, 0, 0, 0) = 1; store(1, 5, 50, 0) = 2; store(1, 6, 60, 0) = 3
            modify(0, 5) ! State; modify(1, 50) ! State
            modify(0, 50); modify(1, 5); get(0) = 50; get(1) = 5
            """, Script.ring(0, 1, 2, 3), Script.ring(4, 1, 3, 2));
        SCRIPT.run("modify: a record in no ring refuses none, nor one who is in no ring", full(32, 2), """
            find(1, 0); disconnect(4)
            find(24, 0); modify(2, 10); get(2) = 10
            find(1, 0); modify(2, 11); modify(2, 10); connect(4) ! State
            """);
    }

    private static void besideTheFirstRecord() {
        SCRIPT.run("NEXT: behind the first record", full(2, 2), Script.ring(4, 2, 1, 24),
            "find(24, 0); reconnect(4)", Script.ring(4, 2, 24, 1),
            "find(1, 0); find(24, 16); reconnect(4)", Script.ring(4, 2, 1, 24));
        SCRIPT.run("PRIOR: before the first record", full(3, 2), Script.ring(4, 2, 24, 1),
            "find(24, 0); reconnect(4)", Script.ring(4, 2, 1, 24),
            "find(1, 0); find(24, 16); reconnect(4)", Script.ring(4, 2, 24, 1));
    }

    private static void aRingOf23() {
        StringBuilder rows = new StringBuilder("""
            type(1) = 0; type(1) = 1; set(0, 1, 10, 2) = 0; set(0, 1, 30, 2) = 1; set(0, 1, 2, 2) = 2; set(0, 1, 3, 2) = 3
            """);
        int[] up = new int[23];
        int[] down = new int[23];
        for (int key = 1; key <= 23; key++) {
            rows.append("store(1, ").append(-key).append(", 0, 0) = ").append(key).append('\n');
            up[key - 1] = key;
            down[23 - key] = key;
        }
        rows.append("store(0, 0, 0, 0) = 24\n");
        for (int key = 1; key <= 23; key++) {
            rows.append("find(").append(key).append(", 0); connect(0); connect(1); connect(2); connect(3)\n");
        }
        SCRIPT.run("all but the owner are in its ring, sorted", rows.toString(),
            Script.ring(0, 24, down), Script.ring(1, 24, down));
        SCRIPT.run("all but the owner are in its ring, by NEXT and PRIOR", rows.toString(),
            Script.ring(2, 24, up), Script.ring(3, 24, down));
        SCRIPT.run("the first, the last and a middle one of such a ring change their places", rows.toString(), """
            find(23, 0); modify(0, 0); modify(0, -5) ! State; find(5, 0); modify(0, -1) ! State; modify(0, -24)
            find(1, 0); disconnect(0); members(0) = 22; current(2, 0) = 2
            find(24, 0); move(0, 2) = 5; move(0, 2) = 22; move(0, 1) = 23; move(0, 3) = 2
            """);
    }

    private static void storing() {
        String five = """
            type(1) = 0; type(1) = 1; type(2) = 2
            set(0, 2, 1, 5) = 0; set(0, 2, 1, 5) = 1; set(0, 2, 1, 5) = 2; set(0, 2, 1, 5) = 3; set(1, 2, 31, 5) = 4
            store(0, 0, 0, 0) = 1
            """;
        SCRIPT.run("the fifth set alone has no current owner", five, """
            store(2, 0, 0, 0) ! Element
            store(1, 0, 0, 0) = 2; store(2, 0, 0, 0) = 3; owner(4, 3) = 2; owner(3, 3) = 1
            """);
        SCRIPT.run("the first set alone has no current owner", five, """
            store(1, 0, 0, 0) = 2; keep() = 2; rollBack() = 2
            find(1, 1); find(2, 0)
            current(2, 0) = 0; current(2, 1) = 1; current(2, 4) = 2
            store(2, 0, 0, 0) ! Element
            """);
        SCRIPT.run("the fifth set alone refuses it", five, """
            store(1, 0, 0, 0) = 2; store(2, 0, 7, 0) = 3
            store(2, 0, 7, 0) ! State; members(0) = 1; store(2, 0, 8, 0) = 4; members(0) = 2; members(4) = 2
            """);
        SCRIPT.run("the first record and the 24th refuse one in the fifth set", full(32, 2), """
            find(3, 0); erase(0) = 1; find(24, 0); store(3, 0, 0, 10) = 25; connect(4) ! State
            modify(2, 20); connect(4) ! State; modify(2, 15); connect(4)
            """, Script.ring(4, 2, 1, 25, 24));
    }

    private static void changing() {
        SCRIPT.run("connect, disconnect, reconnect in the fifth set", full(1, 2), """
            connect(4) ! State; disconnect(4); owner(4, 24) = 0; current(2, 4) = 1; disconnect(4) ! State
            reconnect(4) ! State; connect(4); owner(4, 24) = 2
            find(1, 0); reconnect(4)
            """, Script.ring(4, 2, 24, 1), """
            find(1, 0); disconnect(4); current(2, 4) = 24
            connect(5) ! Argument; disconnect(5) ! Argument; reconnect(5) ! Argument
            """, Script.ring(4, 2, 24));
    }

    private static void erasing() {
        SCRIPT.run("mode 0: the ring that is not empty is one of the fifth set", full(1, 2), """
            find(2, 0); erase(0) ! State; erase(1) = 1; owner(4, 1) = 0; owner(4, 24) = 0; current(2, 4) = 0
            """);
        SCRIPT.run("mode 1: the BOUND set is the fifth one", full(1, 1), """
            find(2, 0); erase(1) ! State; erase(2) = 3; count() = 21
            """);
        SCRIPT.run("mode 1: the FIXED set is the fifth one", full(1, 0), """
            find(2, 0); erase(1) = 3; count() = 21; current(1, 3) = 0; find(1, 0) ! Element; find(24, 0) ! Element
            """);
        SCRIPT.run("who goes is current of the fifth set, the 24th record or the first one", full(1, 0), """
            erase(0) = 1; current(2, 4) = 1; current(1, 3) = 0; members(4) = 1
            find(1, 0); erase(0) = 1; current(2, 4) = 2; members(4) = 0
            """);
    }

    private static void keeping() {
        SCRIPT.run("the rings of the fifth set, and the first and the 24th record, are kept", full(32, 2), """
            keep() = 24
            modify(2, 5); modify(1, 6); modify(0, 7); find(1, 0); modify(2, 30)
            """, Script.ring(4, 2, 24, 1), "rollBack() = 24", Script.ring(4, 2, 1, 24), """
            find(1, 0); get(0) = 1; get(1) = 1; get(2) = 10
            find(24, 0); get(0) = 1; get(1) = 1; get(2) = 20
            """);
        SCRIPT.run("they are as they were when others of other types were stored since", full(32, 2), """
            keep() = 24
            find(2, 0); erase(3) = 3
            store(0, 7, 0, 0) = 25; store(0, 8, 0, 0) = 26; store(2, 9, 0, 0) = 27
            rollBack() = 24
            seek(3, 2, 20) = 24; get(1) = 1; seek(3, 2, 10) = 1; get(1) = 1; seek(2, 0, 0) = 2
            seek(2, 0, 9) ! Element; seek(0, 0, 7) ! Element; seek(0, 0, 8) ! Element
            current(1, 3) = 1
            """, Script.ring(4, 2, 1, 24));
    }

    private static void whatHasGone() {
        SCRIPT.run("who is stored behind one that has gone is not current, a member or an owner by that", """
            type(1) = 0; type(1) = 1; type(1) = 2
            set(0, 1, 1, 2) = 0; set(1, 2, 1, 2) = 1
            store(1, 0, 0, 0) = 1; store(0, 0, 0, 0) = 2; store(2, 0, 0, 0) = 3
            find(1, 0); connect(0); find(3, 0); connect(1); find(1, 0); erase(3) = 2
            store(0, 0, 0, 0) = 4; store(0, 0, 0, 0) = 5
            current(1, 1) = 0; current(1, 2) = 0; current(2, 1) = 0
            owner(0, 4) = 0; owner(0, 5) = 0; owner(1, 4) = 0; owner(1, 5) = 0
            """, Script.ring(0, 2), Script.ring(0, 4), Script.ring(0, 5));
        SCRIPT.run("who is stored behind one that has left its ring and gone owns an empty ring, and walks it", """
            type(1) = 0; type(1) = 1; set(0, 1, 1, 5) = 0
            store(0, 0, 0, 0) = 1; store(1, 0, 0, 0) = 2; store(1, 0, 0, 0) = 3
            disconnect(0); erase(0) = 1
            store(0, 0, 0, 0) = 4; store(1, 5, 0, 0) = 5; store(1, 6, 0, 0) = 6
            find(4, 0); scan(0, 0, 5) = 5
            """, Script.ring(0, 4, 5, 6), Script.ring(0, 1, 2));
        SCRIPT.run("all that were current are gone: of each type none is, whoever is stored then", """
            type(1) = 0; type(1) = 1; type(1) = 2; type(1) = 3
            store(0, 0, 0, 0) = 1; erase(0) = 1; store(1, 0, 0, 0) = 2
            current(1, 0) = 0; current(1, 1) = 2; erase(0) = 1
            store(3, 0, 0, 0) = 3; current(1, 0) = 0; current(1, 1) = 0; current(1, 3) = 3; erase(0) = 1
            store(2, 0, 0, 0) = 4; current(1, 0) = 0; current(1, 1) = 0; current(1, 2) = 4; current(1, 3) = 0
            """);
    }
}
