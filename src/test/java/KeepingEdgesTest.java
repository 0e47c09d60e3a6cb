/**
 * The edges of promises 16 to 20: members, owner, keep, rollBack, count; each run bears the
 * sentence that it would miss.
 */
public final class KeepingEdgesTest {
    private static final Script SCRIPT = new Script();

    /** In set 0 the ring of 1 is 2, 3, that of 4 is 5, that of 6 is empty; in set 1 none is a member. */
    private static final String RINGS = """
        type(1) = 0; type(2) = 1
        set(0, 1, 1, 5) = 0; set(0, 1, 1, 2) = 1
        store(0, 0, 0, 0) = 1; store(1, 0, 0, 0) = 2; store(1, 0, 0, 0) = 3
        store(0, 0, 0, 0) = 4; store(1, 0, 0, 0) = 5; store(0, 0, 0, 0) = 6
        """;

    public static void main(String[] args) {
        membersOfARing();
        membersExceptions();
        ownerOfARing();
        ownerIsNone();
        ownerExceptions();
        keepNothingAndAll();
        keepChangesNothing();
        rollBackAtFirst();
        rollBackToWhatWasKeptLast();
        rollBackFields();
        rollBackRings();
        rollBackNextKey();
        rollBackCurrents();
        rollBackLeavesWhatIsDeclared();
        countEdges();
        SCRIPT.end();
    }

    private static void membersOfARing() {
        SCRIPT.run("promise 16: the ring of the current owner: none, one, two; by an owner or a member", RINGS, """
            members(0) = 0
            find(4, 0); members(0) = 1; find(5, 0); members(0) = 1
            find(1, 0); members(0) = 2; find(2, 0); members(0) = 2; find(3, 0); members(0) = 2
            members(1) = 0
            """);
        SCRIPT.run("promise 16: by the current one of the set, not of the run", RINGS, """
            find(1, 0); find(5, 1); members(0) = 2; find(6, 1); members(0) = 2
            """);
        StringBuilder rows = new StringBuilder("type(1) = 0; type(1) = 1; set(0, 1, 1, 3) = 0; store(0, 0, 0, 0) = 1\n");
        for (int key = 2; key <= 24; key++) {
            rows.append("store(1, 0, 0, 0) = ").append(key).append('\n');
        }
        SCRIPT.run("promise 16: as many as there can be", rows.toString(), "members(0) = 23");
        SCRIPT.run("promise 16: those that leave or go count no more", RINGS, """
            find(2, 0); disconnect(0); members(0) = 1
            find(3, 0); erase(0) = 1; members(0) = 0
            """);
    }

    private static void membersExceptions() {
        SCRIPT.run("promise 16: illegal argument: the set, one beside those that there are", RINGS, """
            members(-1) ! Argument; members(2) ! Argument; members(1) = 0
            """);
        SCRIPT.run("promise 16: no such element: there is no current owner; illegal argument comes first", RINGS, """
            keep() = 6; rollBack() = 6
            members(0) ! Element; members(1) ! Element; members(2) ! Argument; members(-1) ! Argument
            find(2, 0)
            members(0) = 2; members(1) ! Element
            """);
    }

    private static void ownerOfARing() {
        SCRIPT.run("promise 17: the key of the owner of the ring, wherever one stands", RINGS, """
            owner(0, 2) = 1; owner(0, 3) = 1; owner(0, 5) = 4
            find(2, 0); owner(0, 5) = 4; owner(0, 2) = 1
            keep() = 6; rollBack() = 6; owner(0, 2) = 1; owner(0, 5) = 4
            """);
        SCRIPT.run("promise 17: of the set in question", RINGS, """
            find(2, 0); connect(1); owner(0, 2) = 1; owner(1, 2) = 6
            """);
    }

    private static void ownerIsNone() {
        SCRIPT.run("promise 17: 0 when it is none: not yet, no more, not of the member type", RINGS, """
            owner(1, 2) = 0; owner(0, 1) = 0; owner(0, 6) = 0; owner(1, 1) = 0
            find(2, 0); disconnect(0); owner(0, 2) = 0
            find(4, 0); erase(1) = 1; owner(0, 5) = 0
            """);
    }

    private static void ownerExceptions() {
        SCRIPT.run("promise 17: illegal argument: the set, one beside those that there are", RINGS, """
            owner(-1, 2) ! Argument; owner(2, 2) ! Argument; owner(1, 2) = 0
            """);
        SCRIPT.run("promise 17: no such element: the key, one beside those that there are, or gone", RINGS, """
            owner(0, 0) ! Element; owner(0, -1) ! Element; owner(0, 7) ! Element
            owner(0, -2147483648) ! Element; owner(0, 2147483647) ! Element
            owner(0, 1) = 0; owner(0, 6) = 0
            find(3, 0); erase(0) = 1; owner(0, 3) ! Element; owner(1, 3) ! Element
            """);
        SCRIPT.run("promise 17: no such set and no such record: illegal argument", RINGS, """
            owner(2, 7) ! Argument; owner(-1, 0) ! Argument
            """);
    }

    private static void keepNothingAndAll() {
        SCRIPT.run("promise 18: how many records: none, one, 24", """
            keep() = 0
            type(1) = 0; keep() = 0
            store(0, 0, 0, 0) = 1; keep() = 1
            """, storesOfKeys(2, 24), "keep() = 24; erase(0) = 1; keep() = 23; rollBack() = 23");
        SCRIPT.run("promise 18: all that is there is kept, when that is nothing too", """
            type(1) = 0; store(0, 0, 0, 0) = 1; keep() = 1; erase(0) = 1
            keep() = 0
            store(0, 0, 0, 0) = 2; rollBack() = 0; count() = 0; find(1, 0) ! Element; find(2, 0) ! Element
            """);
    }

    private static String storesOfKeys(int first, int last) {
        StringBuilder rows = new StringBuilder();
        for (int key = first; key <= last; key++) {
            rows.append("store(0, ").append(key).append(", 0, 0) = ").append(key).append('\n');
        }
        return rows.toString();
    }

    private static void keepChangesNothing() {
        SCRIPT.run("promise 18: one stands where one stood, and the next key is the next", RINGS, """
            find(3, 0); find(6, 1); keep() = 6
            current(0, 0) = 6; current(1, 0) = 6; current(1, 1) = 3; current(2, 0) = 3; current(2, 1) = 6
            move(0, 3) = 2
            store(0, 0, 0, 0) = 7
            """);
    }

    private static void rollBackAtFirst() {
        SCRIPT.run("promise 19: at first there is no record: nothing was declared, nothing was stored", """
            rollBack() = 0; count() = 0; rollBack() = 0; type(1) = 0; rollBack() = 0; store(0, 0, 0, 0) = 1
            """);
        SCRIPT.run("promise 19: at first there is no record, and the key that comes next is 1", RINGS, """
            rollBack() = 0; count() = 0
            find(1, 0) ! Element; find(6, 0) ! Element; owner(0, 2) ! Element; seek(0, 0, 0) ! Element
            store(0, 0, 0, 0) = 1; members(0) = 0; store(1, 0, 0, 0) = 2
            """, Script.ring(0, 1, 2));
    }

    private static void rollBackToWhatWasKeptLast() {
        SCRIPT.run("promise 19: as when they were kept last: the second of two", """
            type(1) = 0; store(0, 1, 0, 0) = 1; keep() = 1; store(0, 2, 0, 0) = 2; keep() = 2
            store(0, 3, 0, 0) = 3
            rollBack() = 2; find(2, 0); get(0) = 2; find(3, 0) ! Element
            """);
        SCRIPT.run("promise 19: rolled back twice, it is the same; what comes between is lost", """
            type(1) = 0; store(0, 1, 0, 0) = 1; keep() = 1
            rollBack() = 1; rollBack() = 1
            find(1, 0); modify(0, 9); store(0, 2, 0, 0) = 2
            rollBack() = 1; find(1, 0); get(0) = 1; find(2, 0) ! Element
            erase(0) = 1; rollBack() = 1; find(1, 0); get(0) = 1
            """);
    }

    private static void rollBackFields() {
        SCRIPT.run("promise 19: all fields are as they were, each of them", """
            type(3) = 0; store(0, 1, 2, 3) = 1; store(0, 4, 5, 6) = 2; keep() = 2
            modify(0, 9); modify(1, 9); modify(2, 9); find(1, 0); modify(2, 9)
            rollBack() = 2
            find(1, 0); get(0) = 1; get(1) = 2; get(2) = 3
            find(2, 0); get(0) = 4; get(1) = 5; get(2) = 6
            """);
    }

    private static void rollBackRings() {
        SCRIPT.run("promise 19: all rings are as they were: who left, joined, changed, went", RINGS, """
            find(1, 0); find(2, 0); connect(1); keep() = 6
            disconnect(1); find(6, 0); find(2, 1); reconnect(0); find(3, 0); disconnect(0); find(5, 0); connect(1)
            find(4, 0); erase(3) = 2
            rollBack() = 6
            """, Script.ring(0, 1, 2, 3), Script.ring(0, 4, 5), Script.ring(0, 6), Script.ring(1, 1, 2),
            Script.ring(1, 4), Script.ring(1, 6));
        SCRIPT.run("promise 19: the order of a ring is as it was", """
            type(1) = 0; type(1) = 1; set(0, 1, 20, 3) = 0; set(0, 1, 1, 4) = 1
            store(0, 0, 0, 0) = 1; store(1, 1, 0, 0) = 2; store(1, 2, 0, 0) = 3; store(1, 3, 0, 0) = 4
            keep() = 4
            find(2, 0); modify(0, 9); reconnect(1)
            """, Script.ring(0, 1, 3, 4, 2), Script.ring(1, 1, 3, 4, 2), "rollBack() = 4",
            Script.ring(0, 1, 2, 3, 4), Script.ring(1, 1, 2, 3, 4));
        SCRIPT.run("promise 19: rings that were not there are not there", """
            type(1) = 0; type(1) = 1; set(0, 1, 1, 2) = 0
            store(0, 0, 0, 0) = 1; store(1, 0, 0, 0) = 2; keep() = 2
            connect(0); store(0, 0, 0, 0) = 3; store(1, 0, 0, 0) = 4; connect(0)
            rollBack() = 2
            owner(0, 2) = 0; store(0, 0, 0, 0) = 3; members(0) = 0; store(1, 0, 0, 0) = 4; owner(0, 4) = 0
            """, Script.ring(0, 1), Script.ring(0, 3));
    }

    private static void rollBackNextKey() {
        SCRIPT.run("promise 19: the key that comes next is as it was, not behind those that are there", """
            type(1) = 0; store(0, 0, 0, 0) = 1; store(0, 0, 0, 0) = 2; store(0, 0, 0, 0) = 3; erase(0) = 1
            keep() = 2
            store(0, 0, 0, 0) = 4; store(0, 0, 0, 0) = 5
            rollBack() = 2
            store(0, 0, 0, 0) = 4; find(3, 0) ! Element; find(5, 0) ! Element
            """);
    }

    private static void rollBackCurrents() {
        SCRIPT.run("promise 19: no record is current of anything, though nothing was changed", RINGS, """
            find(3, 0); keep() = 6; rollBack() = 6
            current(0, 0) = 0; current(1, 0) = 0; current(1, 1) = 0; current(2, 0) = 0; current(2, 1) = 0
            get(0) ! Element; modify(0, 0) ! Element; erase(0) ! Element; disconnect(0) ! Element
            connect(0) ! Element; reconnect(0) ! Element; members(0) ! Element
            move(0, 2) ! Element; scan(0, 0, 0) ! Element; store(1, 0, 0, 0) ! Element
            store(0, 0, 0, 0) = 7; current(0, 0) = 7; current(1, 1) = 0; current(2, 0) = 7
            """);
    }

    private static void rollBackLeavesWhatIsDeclared() {
        SCRIPT.run("promise 19: records, fields and rings: what is declared stays so", """
            keep() = 0; type(1) = 0; type(2) = 1; set(0, 1, 1, 3) = 0
            rollBack() = 0
            type(1) = 2; set(0, 1, 1, 3) = 1
            store(0, 0, 0, 0) = 1; store(1, 0, 5, 0) = 2; get(1) = 5; owner(0, 2) = 1; owner(1, 2) = 1
            """);
    }

    private static void countEdges() {
        SCRIPT.run("promise 20: how many records there are: none, one, 24, one less", """
            count() = 0; type(1) = 0; count() = 0; store(0, 1, 0, 0) = 1; count() = 1
            """, storesOfKeys(2, 24), """
            count() = 24; store(0, 0, 0, 0) ! State; count() = 24; erase(0) = 1; count() = 23
            rollBack() = 0; count() = 0
            """);
    }
}
