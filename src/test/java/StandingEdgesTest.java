/** The edges of promises 5 to 10: find, seek, move, scan, current, get; each run bears the sentence that it would miss. */
public final class StandingEdgesTest {
    private static final Script SCRIPT = new Script();

    /**
     * In set 0 the ring of 1 is 2, 3, 4 (fields 7, 8, 7), that of 5 is 6 alone (9), that of 7 is empty.
     * In set 1 the ring of 3 is 8.
     */
    private static final String RINGS = """
        type(1) = 0; type(2) = 1; type(1) = 2
        set(0, 1, 1, 5) = 0; set(1, 2, 1, 5) = 1
        store(0, 0, 0, 0) = 1; store(1, 7, 21, 0) = 2; store(1, 8, 31, 0) = 3; store(1, 7, 41, 0) = 4
        store(0, 0, 0, 0) = 5; store(1, 9, 61, 0) = 6
        store(0, 5, 0, 0) = 7
        find(3, 0); store(2, 81, 0, 0) = 8
        """;
    private static final String NOTHING_CURRENT = RINGS + "keep() = 8; rollBack() = 8\n";

    public static void main(String[] args) {
        findKey();
        findStay();
        seekFirstByKeys();
        seekExceptions();
        moveHow();
        moveFirstAndLast();
        moveNext();
        movePrior();
        moveOwner();
        moveExceptions();
        scanFromTheOwner();
        scanFromAMember();
        scanExceptions();
        currentWhat();
        currentNone();
        getField();
        getExceptions();
        SCRIPT.end();
    }

    private static void findKey() {
        SCRIPT.run("promise 5: the record with a key: the first and the last one, and those beside them", RINGS, """
            find(1, 0); current(0, 0) = 1
            find(8, 0); current(0, 0) = 8
            find(0, 0) ! Element; find(9, 0) ! Element; find(-1, 0) ! Element
            find(-2147483648, 0) ! Element; find(2147483647, 0) ! Element
            current(0, 0) = 8
            """);
        SCRIPT.run("promise 5: no such element: it has gone, also when its key was the last or the first", RINGS, """
            erase(0) = 1
            find(8, 0) ! Element
            find(1, 0); erase(3) = 4
            find(1, 0) ! Element; find(2, 0) ! Element; find(4, 0) ! Element
            find(5, 0); find(6, 0); find(7, 0)
            """);
        SCRIPT.run("promise 5: no such element: it has gone, and another one was stored since", RINGS, """
            find(2, 0); erase(0) = 1
            store(0, 3, 0, 0) = 9
            find(2, 0) ! Element
            find(9, 0); get(0) = 3
            """);
        SCRIPT.run("promise 5: no such element: it was rolled back", RINGS, """
            keep() = 8; store(0, 0, 0, 0) = 9; find(9, 0)
            rollBack() = 8
            find(9, 0) ! Element; find(8, 0)
            """);
        SCRIPT.run("promise 5: key 0 is no record, also when records have gone or none is there", """
            type(1) = 0
            find(0, 0) ! Element
            store(0, 0, 0, 0) = 1; erase(0) = 1
            find(0, 0) ! Element; find(1, 0) ! Element
            """);
    }

    private static void findStay() {
        String five = """
            type(1) = 0; type(1) = 1
            set(0, 1, 1, 3) = 0; set(0, 1, 1, 3) = 1; set(0, 1, 1, 3) = 2; set(0, 1, 1, 3) = 3; set(0, 1, 1, 3) = 4
            store(0, 0, 0, 0) = 1; store(1, 0, 0, 0) = 2
            """;
        int[] stays = {0, 1, 2, 4, 8, 16, 3, 17, 30, 31, 32, 33, 63, -1, -2, -17, -32, -2147483648, 2147483647};
        for (int stay : stays) {
            SCRIPT.run("promise 5: but for the sets whose bits are in stay: an owner comes, " + stay, five,
                "find(1, " + stay + "); current(0, 0) = 1; current(1, 0) = 1; current(1, 1) = 2",
                currentsOfSets(stay, 2, 1));
            SCRIPT.run("promise 5: but for the sets whose bits are in stay: a member comes, " + stay, five,
                "find(1, 0); find(2, " + stay + "); current(0, 0) = 2; current(1, 0) = 1; current(1, 1) = 2",
                currentsOfSets(stay, 1, 2));
        }
        SCRIPT.run("promise 5: a set in stay of which none is current: none is current still", NOTHING_CURRENT, """
            find(3, 3)
            current(0, 0) = 3; current(1, 1) = 3; current(2, 0) = 0; current(2, 1) = 0
            find(3, 1)
            current(2, 0) = 0; current(2, 1) = 3
            """);
        SCRIPT.run("promise 5: no such element: whatever is in stay", RINGS, """
            find(9, -1) ! Element; find(0, 31) ! Element
            """);
    }

    private static String currentsOfSets(int stay, int stayed, int came) {
        StringBuilder rows = new StringBuilder();
        for (int s = 0; s < 5; s++) {
            boolean inStay = Math.floorMod(Math.floorDiv(stay, 1 << s), 2) == 1;
            rows.append("current(2, ").append(s).append(") = ").append(inStay ? stayed : came).append('\n');
        }
        return rows.toString();
    }

    private static void seekFirstByKeys() {
        SCRIPT.run("promise 6: the first record by keys: one, the first of two, one of the last", RINGS, """
            seek(1, 0, 8) = 3; current(0, 0) = 3
            seek(1, 0, 7) = 2; current(0, 0) = 2; current(1, 1) = 2; current(2, 0) = 2; current(2, 1) = 2
            seek(1, 0, 9) = 6
            seek(0, 0, 0) = 1; seek(0, 0, 5) = 7
            seek(1, 1, 21) = 2; seek(1, 1, 61) = 6
            """);
        SCRIPT.run("promise 6: wherever one stands, also on the one that is found", RINGS, """
            find(4, 0); seek(1, 0, 7) = 2; seek(1, 0, 7) = 2
            """);
        SCRIPT.run("promise 6: by keys, not by the order of a ring", """
            type(1) = 0; type(1) = 1; set(0, 1, 0, 3) = 0
            store(0, 0, 0, 0) = 1; store(1, 4, 0, 0) = 2; store(1, 4, 0, 0) = 3
            move(0, 0) = 3
            seek(1, 0, 4) = 2
            """);
        SCRIPT.run("promise 6: by keys, when the first one has gone and others were stored since", RINGS, """
            find(2, 0); erase(0) = 1
            seek(1, 0, 7) = 4
            find(5, 0); store(1, 7, 0, 0) = 9
            seek(1, 0, 7) = 4
            erase(0) = 1
            seek(1, 0, 7) = 9
            """);
        SCRIPT.run("promise 6: of a type: another type's record with the value does not matter", """
            type(1) = 0; type(1) = 1
            store(0, 3, 0, 0) = 1; store(1, 3, 0, 0) = 2; store(0, 4, 0, 0) = 3
            seek(1, 0, 3) = 2; seek(0, 0, 3) = 1
            seek(1, 0, 4) ! Element
            """);
        SCRIPT.run("promise 6: a record that is in no ring and owns none is found too", """
            type(1) = 0; store(0, -2147483648, 0, 0) = 1; store(0, 2147483647, 0, 0) = 2
            seek(0, 0, 2147483647) = 2; seek(0, 0, -2147483648) = 1
            """);
    }

    private static void seekExceptions() {
        SCRIPT.run("promise 6: illegal argument: type and field, one beside those that there are", RINGS, """
            seek(-1, 0, 0) ! Argument; seek(3, 0, 0) ! Argument
            seek(0, -1, 0) ! Argument; seek(0, 1, 0) ! Argument
            seek(1, -1, 7) ! Argument; seek(1, 2, 0) ! Argument; seek(1, 3, 0) ! Argument
            seek(2, 0, 81) = 8
            """);
        SCRIPT.run("promise 6: no such element: no such value, or it was modified, or its record has gone", RINGS, """
            seek(1, 0, 6) ! Element; seek(1, 0, 10) ! Element; seek(1, 1, 7) ! Element
            find(3, 0); modify(0, 10)
            seek(1, 0, 8) ! Element; seek(1, 0, 10) = 3
            find(7, 0); erase(0) = 1
            seek(0, 0, 5) ! Element
            """);
        SCRIPT.run("promise 6: no such element: there is no record; illegal argument comes first", """
            type(1) = 0
            seek(0, 0, 0) ! Element; seek(0, 1, 0) ! Argument; seek(1, 0, 0) ! Argument
            store(0, 0, 0, 0) = 1; erase(0) = 1
            seek(0, 0, 0) ! Element
            """);
    }

    private static void moveHow() {
        SCRIPT.run("promise 7: illegal argument: how is none of these", RINGS, """
            find(3, 0)
            move(0, -1) ! Argument; move(0, 5) ! Argument
            move(0, -2147483648) ! Argument; move(0, 2147483647) ! Argument
            current(0, 0) = 3
            move(0, 0) = 2; move(0, 4) = 1
            """);
        SCRIPT.run("promise 7: illegal argument: the set, one beside those that there are", RINGS, """
            move(-1, 0) ! Argument; move(2, 0) ! Argument; move(3, 4) ! Argument
            move(1, 4) = 3
            """);
    }

    private static void moveFirstAndLast() {
        SCRIPT.run("promise 7: 0, 1: the first and the last member, from the owner and from each member", RINGS, """
            find(1, 0); move(0, 0) = 2; find(1, 0); move(0, 1) = 4
            find(2, 0); move(0, 0) = 2; find(2, 0); move(0, 1) = 4
            find(3, 0); move(0, 0) = 2; find(3, 0); move(0, 1) = 4
            find(4, 0); move(0, 0) = 2; find(4, 0); move(0, 1) = 4
            """);
        SCRIPT.run("promise 7: 0, 1: a ring with one member", RINGS, """
            find(5, 0); move(0, 0) = 6; move(0, 0) = 6; move(0, 1) = 6
            find(5, 0); move(0, 1) = 6
            """);
        SCRIPT.run("promise 7: 0, 1: a ring without one", RINGS, """
            find(7, 0); move(0, 0) ! Element; move(0, 1) ! Element; current(0, 0) = 7
            """);
        SCRIPT.run("promise 7: by the current one of the set, not of the run", RINGS, """
            find(3, 0); find(6, 1); move(0, 0) = 2
            find(3, 0); find(7, 1); move(0, 1) = 4
            find(7, 0); find(3, 1); move(0, 0) ! Element
            """);
    }

    private static void moveNext() {
        SCRIPT.run("promise 7: 2: the next one behind the current one", RINGS, """
            find(2, 0); move(0, 2) = 3; move(0, 2) = 4
            """);
        SCRIPT.run("promise 7: 2: behind the last one there is none, the ring does not wrap around", RINGS, """
            find(4, 0); move(0, 2) ! Element; move(0, 2) ! Element; current(0, 0) = 4; current(2, 0) = 4
            find(6, 0); move(0, 2) ! Element
            """);
        SCRIPT.run("promise 7: 2: the first one if that is the owner", RINGS, """
            find(1, 0); move(0, 2) = 2
            find(5, 0); move(0, 2) = 6
            """);
        SCRIPT.run("promise 7: 2: the owner of an empty ring", RINGS, """
            find(7, 0); move(0, 2) ! Element; current(2, 0) = 7
            """);
    }

    private static void movePrior() {
        SCRIPT.run("promise 7: 3: the one before it", RINGS, """
            find(4, 0); move(0, 3) = 3; move(0, 3) = 2
            """);
        SCRIPT.run("promise 7: 3: before the first one there is none, the ring does not wrap around", RINGS, """
            find(2, 0); move(0, 3) ! Element; move(0, 3) ! Element; current(0, 0) = 2; current(2, 0) = 2
            find(6, 0); move(0, 3) ! Element
            """);
        SCRIPT.run("promise 7: 3: the last one if that is the owner", RINGS, """
            find(1, 0); move(0, 3) = 4
            find(5, 0); move(0, 3) = 6
            """);
        SCRIPT.run("promise 7: 3: the owner of an empty ring", RINGS, """
            find(7, 0); move(0, 3) ! Element; current(2, 0) = 7
            """);
    }

    private static void moveOwner() {
        SCRIPT.run("promise 7: 4: the current owner, from a member, from itself, of an empty ring", RINGS, """
            find(4, 0); move(0, 4) = 1
            current(0, 0) = 1; current(1, 0) = 1; current(2, 0) = 1; current(2, 1) = 4
            move(0, 4) = 1
            find(6, 0); move(0, 4) = 5
            find(7, 0); move(0, 4) = 7
            """);
        SCRIPT.run("promise 7: one comes to it in all that it concerns: it is a member in one set, an owner in another", RINGS, """
            find(8, 0); move(1, 4) = 3
            current(0, 0) = 3; current(1, 1) = 3; current(1, 2) = 8; current(2, 0) = 3; current(2, 1) = 3
            """);
    }

    private static void moveExceptions() {
        SCRIPT.run("promise 7: no such element: none is current of the set", NOTHING_CURRENT, """
            move(0, 0) ! Element; move(0, 1) ! Element; move(0, 2) ! Element; move(0, 3) ! Element; move(0, 4) ! Element
            find(3, 1)
            move(0, 0) ! Element; move(0, 4) ! Element
            move(1, 0) = 8
            """);
        SCRIPT.run("promise 7: none is current and the argument is wrong: illegal argument", NOTHING_CURRENT, """
            move(0, 5) ! Argument; move(0, -1) ! Argument; move(2, 0) ! Argument; move(-1, 9) ! Argument
            """);
        SCRIPT.run("promise 7: there is no such member and how is wrong: illegal argument", RINGS, """
            find(7, 0); move(0, 5) ! Argument; move(0, -1) ! Argument; move(0, 0) ! Element
            """);
    }

    private static void scanFromTheOwner() {
        SCRIPT.run("promise 8: from the first one on, if that is the owner: the first, a middle, the last one", RINGS, """
            find(1, 0); scan(0, 0, 7) = 2; current(0, 0) = 2; current(2, 0) = 2; current(2, 1) = 2
            find(1, 0); scan(0, 0, 8) = 3
            find(1, 0); scan(0, 1, 41) = 4
            find(5, 0); scan(0, 0, 9) = 6
            """);
        SCRIPT.run("promise 8: no member has the value, or another ring's has it", RINGS, """
            find(1, 0); scan(0, 0, 6) ! Element; scan(0, 0, 9) ! Element; scan(0, 1, 7) ! Element; current(0, 0) = 1
            find(5, 0); scan(0, 0, 7) ! Element
            """);
        SCRIPT.run("promise 8: the ring is empty", RINGS, """
            find(7, 0); scan(0, 0, 5) ! Element; scan(0, 0, 0) ! Element
            find(2, 0); scan(1, 0, 81) ! Element
            find(3, 0); scan(1, 0, 81) = 8
            """);
    }

    private static void scanFromAMember() {
        SCRIPT.run("promise 8: behind the current one: itself does not count, the next and the last one do", RINGS, """
            find(2, 0); scan(0, 0, 7) = 4
            find(2, 0); scan(0, 0, 8) = 3
            find(3, 0); scan(0, 0, 8) ! Element; scan(0, 0, 7) = 4
            """);
        SCRIPT.run("promise 8: behind the last one there is none, the ring does not wrap around", RINGS, """
            find(4, 0); scan(0, 0, 7) ! Element; scan(0, 0, 8) ! Element; current(0, 0) = 4; current(2, 0) = 4
            find(3, 0); scan(0, 1, 21) ! Element
            find(6, 0); scan(0, 0, 9) ! Element
            """);
        SCRIPT.run("promise 8: behind the current one of the set, not of the run", RINGS, """
            find(2, 0); find(4, 1); scan(0, 0, 7) = 4
            find(1, 0); find(6, 1); scan(0, 0, 7) = 2
            """);
        SCRIPT.run("promise 8: in the order of the ring, not by keys", """
            type(1) = 0; type(1) = 1; set(0, 1, 0, 3) = 0
            store(0, 0, 0, 0) = 1; store(1, 4, 0, 0) = 2; store(1, 5, 0, 0) = 3; store(1, 4, 0, 0) = 4
            find(1, 0); scan(0, 0, 4) = 4; scan(0, 0, 4) = 2; scan(0, 0, 4) ! Element
            """);
    }

    private static void scanExceptions() {
        SCRIPT.run("promise 8: illegal argument: the set, and the field of its member type", RINGS, """
            find(1, 0)
            scan(-1, 0, 7) ! Argument; scan(2, 0, 7) ! Argument
            scan(0, -1, 7) ! Argument; scan(0, 2, 7) ! Argument; scan(0, 3, 7) ! Argument
            scan(1, 1, 0) ! Argument
            scan(0, 1, 41) = 4; find(3, 0); scan(1, 0, 81) = 8
            """);
        SCRIPT.run("promise 8: no such element: none is current of the set; illegal argument comes first", NOTHING_CURRENT, """
            scan(0, 0, 7) ! Element; scan(0, 2, 7) ! Argument; scan(2, 0, 7) ! Argument
            find(3, 1); scan(0, 0, 7) ! Element; scan(1, 0, 81) = 8
            """);
        SCRIPT.run("promise 8: there is no such member and the field is wrong: illegal argument", RINGS, """
            find(7, 0); scan(0, 2, 0) ! Argument; scan(0, -1, 0) ! Argument; scan(0, 1, 0) ! Element
            """);
    }

    private static void currentWhat() {
        SCRIPT.run("promise 9: illegal argument: also if what is none of these", RINGS, """
            current(-1, 0) ! Argument; current(3, 0) ! Argument
            current(-2147483648, 0) ! Argument; current(2147483647, 0) ! Argument
            current(0, 0) = 8; current(1, 0) = 7; current(2, 0) = 3
            """);
        SCRIPT.run("promise 9: of the run: n does not matter", RINGS, """
            current(0, -1) = 8; current(0, 2) = 8; current(0, 99) = 8
            current(0, -2147483648) = 8; current(0, 2147483647) = 8
            """);
        SCRIPT.run("promise 9: of the run: n does not matter, though nothing is declared", """
            current(0, -1) = 0; current(0, 0) = 0; current(0, 5) = 0
            """);
        SCRIPT.run("promise 9: of type n: one beside those that there are", RINGS, """
            current(1, -1) ! Argument; current(1, 3) ! Argument; current(1, 4) ! Argument
            current(1, 0) = 7; current(1, 1) = 3; current(1, 2) = 8
            """);
        SCRIPT.run("promise 9: of set n: one beside those that there are", RINGS, """
            current(2, -1) ! Argument; current(2, 2) ! Argument; current(2, 5) ! Argument
            current(2, 0) = 3; current(2, 1) = 8
            """);
    }

    private static void currentNone() {
        SCRIPT.run("promise 9: 0 for none: none was yet, none is any more", RINGS, """
            erase(0) = 1
            current(0, 0) = 0; current(1, 2) = 0; current(2, 1) = 3
            rollBack() = 0
            current(0, 0) = 0; current(1, 0) = 0; current(1, 1) = 0; current(1, 2) = 0
            current(2, 0) = 0; current(2, 1) = 0
            """);
    }

    private static void getField() {
        SCRIPT.run("promise 10: a field of the run's current record, the first, the last, one beside them", RINGS, """
            find(2, 0); get(0) = 7; get(1) = 21; get(2) ! Argument; get(-1) ! Argument
            find(7, 0); get(0) = 5; get(1) ! Argument; get(2) ! Argument
            find(8, 0); get(0) = 81; get(1) ! Argument
            """);
        SCRIPT.run("promise 10: of the run, not of a type or a set", RINGS, """
            find(2, 0); find(7, 3); get(0) = 5
            find(4, 3); get(1) = 41
            """);
    }

    private static void getExceptions() {
        SCRIPT.run("promise 10: no such element: none is current of the run", RINGS, """
            erase(0) = 1; get(0) ! Element
            find(4, 0); get(0) = 7
            """);
        SCRIPT.run("promise 10: none is current and the field is wrong: no such element", NOTHING_CURRENT, """
            get(0) ! Element; get(-1) ! Element; get(1) ! Element; get(3) ! Element
            get(-2147483648) ! Element; get(2147483647) ! Element
            """);
        SCRIPT.run("promise 10: nothing is declared: no such element", "get(0) ! Element; get(-1) ! Element");
    }
}
