import java.util.stream.IntStream;

/** The edges of promise 4, store; each run bears the sentence that it would miss. */
public final class StoringEdgesTest {
    private static final Script SCRIPT = new Script();

    /** Records of type 2 join a ring of a record of type 0 and one of type 1, each refusing equals. */
    private static final String TWO_OWNERS = """
        type(1) = 0; type(1) = 1; type(2) = 2
        set(0, 2, 30, 3) = 0; set(1, 2, 31, 5) = 1
        """;

    public static void main(String[] args) {
        keys();
        fieldsThatAreTaken();
        typeOfTheRecord();
        joinsAllAutomaticSets();
        aSetWithoutCurrentOwner();
        setsThatDoNotMatter();
        atMost24();
        fullAndRolledBack();
        refusedInOneOfThem();
        whatIsNamedFirst();
        comesToIt();
        SCRIPT.end();
    }

    private static void keys() {
        SCRIPT.run("its key: 1, 2, .. in the order in which they are stored, of whatever type", """
            type(1) = 0; type(1) = 1
            store(1, 0, 0, 0) = 1; store(0, 0, 0, 0) = 2; store(1, 0, 0, 0) = 3
            """);
        SCRIPT.run("a key that has gone does not come again", """
            type(1) = 0
            store(0, 0, 0, 0) = 1; erase(0) = 1
            store(0, 0, 0, 0) = 2; store(0, 0, 0, 0) = 3; erase(0) = 1
            store(0, 0, 0, 0) = 4
            find(1, 0) ! Element; find(3, 0) ! Element; find(5, 0) ! Element
            """);
        SCRIPT.run("a store that throws takes no key", """
            type(1) = 0; type(1) = 1; set(0, 1, 30, 3) = 0
            store(1, 0, 0, 0) ! Element; store(2, 0, 0, 0) ! Argument
            store(0, 0, 0, 0) = 1; store(1, 0, 0, 0) = 2
            store(1, 0, 0, 0) ! State
            store(1, 1, 0, 0) = 3
            """);
    }

    private static void fieldsThatAreTaken() {
        SCRIPT.run("of the fields behind the type's nothing is taken", """
            type(1) = 0; type(2) = 1; type(3) = 2
            store(0, 7, 8, 9) = 1; get(0) = 7; get(1) ! Argument; get(2) ! Argument
            store(1, 7, 8, 9) = 2; get(0) = 7; get(1) = 8; get(2) ! Argument
            store(2, 7, 8, 9) = 3; get(0) = 7; get(1) = 8; get(2) = 9; get(3) ! Argument
            seek(0, 1, 8) ! Argument; seek(1, 2, 9) ! Argument; seek(1, 1, 8) = 2; seek(2, 2, 9) = 3
            """);
        SCRIPT.run("each field is an int, of any value", """
            type(3) = 0
            store(0, -2147483648, 2147483647, -1) = 1
            get(0) = -2147483648; get(1) = 2147483647; get(2) = -1
            seek(0, 0, -2147483648) = 1; seek(0, 1, 2147483647) = 1; seek(0, 2, -1) = 1
            """);
        SCRIPT.run("a refused one leaves no field in a record that comes later, nor in one that was there", """
            type(1) = 0; type(2) = 1; set(0, 1, 30, 3) = 0
            store(0, 4, 0, 0) = 1; store(1, 5, 6, 0) = 2
            store(1, 5, 99, 0) ! State
            get(0) = 5; get(1) = 6
            seek(1, 1, 99) ! Element
            store(0, 3, 0, 0) = 3; get(0) = 3
            """);
    }

    private static void typeOfTheRecord() {
        SCRIPT.run("illegal argument: the type is one beside those that there are", """
            type(1) = 0; type(1) = 1
            store(-1, 0, 0, 0) ! Argument; store(2, 0, 0, 0) ! Argument; store(3, 0, 0, 0) ! Argument
            store(0, 0, 0, 0) = 1; store(1, 0, 0, 0) = 2
            store(-1, 0, 0, 0) ! Argument; store(2, 0, 0, 0) ! Argument
            """);
        SCRIPT.run("the last of four types, and none behind it", """
            type(1) = 0; type(1) = 1; type(1) = 2; type(1) = 3
            store(4, 0, 0, 0) ! Argument; store(3, 0, 0, 0) = 1; store(4, 0, 0, 0) ! Argument
            """);
    }

    private static void joinsAllAutomaticSets() {
        SCRIPT.run("it joins all automatic sets of which its type is the member type: five of them", """
            type(1) = 0; type(1) = 1; type(1) = 2
            set(0, 2, 0, 3) = 0; set(1, 2, 1, 4) = 1; set(0, 2, 2, 5) = 2; set(1, 2, 3, 3) = 3; set(0, 2, 30, 4) = 4
            store(0, 0, 0, 0) = 1; store(1, 0, 0, 0) = 2; store(2, 0, 0, 0) = 3
            owner(0, 3) = 1; owner(1, 3) = 2; owner(2, 3) = 1; owner(3, 3) = 2; owner(4, 3) = 1
            current(2, 0) = 3; current(2, 1) = 3; current(2, 2) = 3; current(2, 3) = 3; current(2, 4) = 3
            """);
        SCRIPT.run("it joins the automatic sets alone: the manual ones do not get it", """
            type(1) = 0; type(1) = 1
            set(0, 1, 0, 2) = 0; set(0, 1, 0, 3) = 1; set(0, 1, 0, 1) = 2; set(0, 1, 0, 0) = 3
            store(0, 0, 0, 0) = 1; store(1, 0, 0, 0) = 2
            owner(0, 2) = 0; owner(1, 2) = 1; owner(2, 2) = 0; owner(3, 2) = 0
            current(2, 0) = 1; current(2, 1) = 2; current(2, 2) = 1; current(2, 3) = 1
            """);
        SCRIPT.run("not the sets of another member type, though its owner type is the same", """
            type(1) = 0; type(1) = 1; type(1) = 2
            set(0, 1, 0, 3) = 0; set(0, 2, 0, 3) = 1
            store(0, 0, 0, 0) = 1; store(1, 0, 0, 0) = 2
            owner(0, 2) = 1; owner(1, 2) = 0; current(2, 1) = 1; members(1) = 0
            """);
    }

    private static void aSetWithoutCurrentOwner() {
        SCRIPT.run("no such element: one of these sets has no current owner: both, the first, the second", TWO_OWNERS, """
            store(2, 0, 0, 0) ! Element
            store(1, 0, 0, 0) = 1
            store(2, 0, 0, 0) ! Element
            erase(0) = 1
            store(0, 0, 0, 0) = 2
            store(2, 0, 0, 0) ! Element
            store(1, 0, 0, 0) = 3
            store(2, 0, 0, 0) = 4
            """);
        SCRIPT.run("no such element: the current owner has gone, though others are there", TWO_OWNERS, """
            store(0, 0, 0, 0) = 1; store(1, 0, 0, 0) = 2; store(0, 0, 0, 0) = 3
            erase(0) = 1
            store(2, 0, 0, 0) ! Element
            find(1, 0)
            store(2, 0, 0, 0) = 4
            """);
        SCRIPT.run("no such element: no record is current of anything when rolled back", TWO_OWNERS, """
            store(0, 0, 0, 0) = 1; store(1, 0, 0, 0) = 2; keep() = 2; rollBack() = 2
            store(2, 0, 0, 0) ! Element
            find(1, 0)
            store(2, 0, 0, 0) ! Element
            find(2, 0)
            store(2, 0, 0, 0) = 3
            """);
    }

    private static void setsThatDoNotMatter() {
        SCRIPT.run("a manual set without current owner does not matter", """
            type(1) = 0; type(1) = 1
            set(0, 1, 0, 0) = 0; set(0, 1, 0, 1) = 1; set(0, 1, 0, 2) = 2
            store(1, 0, 0, 0) = 1
            current(2, 0) = 0; current(2, 1) = 0; current(2, 2) = 0
            """);
        SCRIPT.run("an automatic set without current owner of which it is the owner type does not matter", """
            type(1) = 0; type(1) = 1
            set(0, 1, 0, 3) = 0; set(0, 1, 0, 4) = 1; set(0, 1, 0, 5) = 2
            store(0, 0, 0, 0) = 1
            current(2, 0) = 1; current(2, 1) = 1; current(2, 2) = 1
            """);
        SCRIPT.run("an automatic set without current owner of other types does not matter", """
            type(1) = 0; type(1) = 1; type(1) = 2
            set(0, 1, 0, 3) = 0
            store(2, 0, 0, 0) = 1
            current(2, 0) = 0
            """);
        SCRIPT.run("a manual set would refuse it: that does not matter", """
            type(1) = 0; type(1) = 1; set(0, 1, 30, 0) = 0
            store(0, 0, 0, 0) = 1; store(1, 5, 0, 0) = 2; connect(0)
            store(1, 5, 0, 0) = 3; owner(0, 3) = 0; members(0) = 1
            """);
    }

    /** Key 1 is an owner, the others its members, LAST in set 0. */
    private static String full(int records) {
        return "type(1) = 0; type(1) = 1; set(0, 1, 1, 5) = 0; store(0, 0, 0, 0) = 1\n" + storesOf(1, 2, records);
    }

    private static String storesOf(int type, int firstKey, int lastKey) {
        StringBuilder rows = new StringBuilder();
        for (int key = firstKey; key <= lastKey; key++) {
            rows.append("store(").append(type).append(", ").append(key).append(", 0, 0) = ").append(key).append('\n');
        }
        return rows.toString();
    }

    private static int[] keysFromTo(int first, int last) {
        return IntStream.rangeClosed(first, last).toArray();
    }

    private static void atMost24() {
        SCRIPT.run("there are 23 records: one more can be stored", full(23), """
            count() = 23; members(0) = 22
            store(1, 0, 0, 0) = 24; count() = 24; members(0) = 23
            """, Script.ring(0, 1, keysFromTo(2, 24)));
        SCRIPT.run("illegal state: there are 24 records, of whatever type the next one is", full(24), """
            store(1, 0, 0, 0) ! State; store(0, 0, 0, 0) ! State
            count() = 24; members(0) = 23; current(0, 0) = 24
            """, Script.ring(0, 1, keysFromTo(2, 24)));
        SCRIPT.run("one of 24 goes: one more can be stored, and no second one", full(24), """
            find(24, 0); erase(0) = 1; count() = 23
            store(0, 0, 0, 0) = 25
            store(0, 0, 0, 0) ! State; store(1, 0, 0, 0) ! State
            members(0) = 0
            """, Script.ring(0, 1, keysFromTo(2, 23)), Script.ring(0, 25));
        SCRIPT.run("all 24 go: 24 more can be stored, and no 25th", full(24), """
            find(1, 0); erase(3) = 24; count() = 0
            store(1, 0, 0, 0) ! Element
            """, storesOf(0, 25, 48), """
            count() = 24
            store(0, 0, 0, 0) ! State
            """);
    }

    private static void fullAndRolledBack() {
        SCRIPT.run("23 were kept and 24 are there: rolled back, one more can be stored", full(23), """
            keep() = 23
            store(0, 0, 0, 0) = 24; store(0, 0, 0, 0) ! State
            rollBack() = 23
            store(0, 0, 0, 0) = 24; store(0, 0, 0, 0) ! State
            """);
        SCRIPT.run("24 were kept and fewer are there: rolled back, none can be stored", full(24), """
            keep() = 24; erase(0) = 1
            rollBack() = 24
            store(0, 0, 0, 0) ! State
            """);
    }

    private static void refusedInOneOfThem() {
        String base = TWO_OWNERS + "store(0, 0, 0, 0) = 1; store(1, 0, 0, 0) = 2; store(2, 5, 5, 0) = 3\n";
        SCRIPT.run("illegal state: it is refused in the first of its sets", base, """
            store(2, 5, 6, 0) ! State
            store(2, 4, 4, 0) = 4; store(2, 6, 6, 0) = 5
            """, Script.ring(0, 1, 4, 3, 5));
        SCRIPT.run("illegal state: it is refused in the second of its sets, and joins not the first", base, """
            store(2, 6, 5, 0) ! State
            members(0) = 1; members(1) = 1
            store(2, 6, 6, 0) = 4
            """, Script.ring(0, 1, 3, 4), Script.ring(1, 2, 3, 4));
        SCRIPT.run("illegal state: it is refused in both", base, """
            store(2, 5, 5, 0) ! State; count() = 3
            """);
        SCRIPT.run("the same value in another owner's ring does not refuse it", base, """
            store(0, 0, 0, 0) = 4
            store(2, 5, 5, 0) ! State
            store(1, 0, 0, 0) = 5
            store(2, 5, 5, 0) = 6
            store(2, 5, 6, 0) ! State; store(2, 6, 5, 0) ! State
            """, Script.ring(0, 1, 3), Script.ring(0, 4, 6), Script.ring(1, 2, 3), Script.ring(1, 5, 6));
        SCRIPT.run("the one with the same value has gone or left: it is not refused", base, """
            erase(0) = 1
            store(2, 5, 5, 0) = 4
            disconnect(1)
            store(2, 6, 5, 0) = 5
            """);
        SCRIPT.run("the same value in a field that the set is not sorted by does not refuse it", base, """
            store(2, 6, 7, 0) = 4
            store(2, 7, 6, 0) = 5
            """);
    }

    private static void whatIsNamedFirst() {
        SCRIPT.run("24 records and no such type: illegal argument", full(24), """
            store(2, 0, 0, 0) ! Argument; store(-1, 0, 0, 0) ! Argument
            """);
        SCRIPT.run("24 records and no current owner: no such element", full(24), """
            keep() = 24; rollBack() = 24
            store(1, 0, 0, 0) ! Element; store(0, 0, 0, 0) ! State; store(2, 0, 0, 0) ! Argument
            """);
        SCRIPT.run("refused in the first set, no current owner in the second: no such element", TWO_OWNERS, """
            store(0, 0, 0, 0) = 1; store(1, 0, 0, 0) = 2; store(2, 5, 5, 0) = 3
            find(2, 1); erase(1) = 1
            current(2, 0) = 3; current(2, 1) = 0
            store(2, 5, 5, 0) ! Element
            store(2, 6, 6, 0) ! Element
            """);
        SCRIPT.run("no current owner in the first set, refused in the second: no such element", """
            type(1) = 0; type(1) = 1; type(2) = 2
            set(0, 2, 30, 5) = 0; set(1, 2, 31, 3) = 1
            store(0, 0, 0, 0) = 1; store(1, 0, 0, 0) = 2; store(2, 5, 5, 0) = 3
            find(1, 2); erase(1) = 1
            current(2, 0) = 0; current(2, 1) = 3
            store(2, 5, 5, 0) ! Element
            """);
    }

    private static void comesToIt() {
        SCRIPT.run("and comes to it, where its type is an owner type and where it joined", """
            type(1) = 0; type(1) = 1; type(1) = 2
            set(0, 1, 1, 3) = 0; set(0, 1, 1, 2) = 1; set(1, 2, 1, 3) = 2
            store(0, 0, 0, 0) = 1
            current(0, 0) = 1; current(1, 0) = 1; current(2, 0) = 1; current(2, 1) = 1; current(2, 2) = 0
            store(1, 0, 0, 0) = 2
            current(0, 0) = 2; current(1, 0) = 1; current(1, 1) = 2
            current(2, 0) = 2; current(2, 1) = 1; current(2, 2) = 2
            store(2, 0, 0, 0) = 3
            current(0, 0) = 3; current(1, 1) = 2; current(1, 2) = 3
            current(2, 0) = 2; current(2, 1) = 1; current(2, 2) = 3
            """);
    }
}
