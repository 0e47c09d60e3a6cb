/** The edges of promises 1 to 3: a new object, type, set; each run bears the sentence that it would miss. */
public final class DeclaringEdgesTest {
    private static final Script SCRIPT = new Script();
    private static final int LEAST = Integer.MIN_VALUE;
    private static final int GREATEST = Integer.MAX_VALUE;

    public static void main(String[] args) {
        nothingIsDeclared();
        fieldsOfAType();
        fourTypes();
        typeWhenStored();
        typesOfASet();
        ordersOfASet();
        classOfASet();
        fiveSets();
        setWhenStored();
        argumentBeforeState();
        SCRIPT.end();
    }

    private static void nothingIsDeclared() {
        SCRIPT.run("promise 1: nothing is declared: no type", """
            store(0, 0, 0, 0) ! Argument; seek(0, 0, 0) ! Argument; current(1, 0) ! Argument
            set(0, 1, 0, 0) ! Argument; set(0, 0, 0, 0) ! Argument
            type(1) = 0
            """);
        SCRIPT.run("promise 1: nothing is declared: no set", """
            move(0, 0) ! Argument; scan(0, 0, 0) ! Argument; current(2, 0) ! Argument
            connect(0) ! Argument; disconnect(0) ! Argument; reconnect(0) ! Argument
            members(0) ! Argument; owner(0, 0) ! Argument
            type(1) = 0; type(1) = 1
            set(0, 1, 0, 0) = 0
            """);
        SCRIPT.run("promise 1: there is no record", """
            count() = 0; current(0, 0) = 0; keep() = 0; rollBack() = 0
            find(0, 0) ! Element; find(1, 0) ! Element
            get(0) ! Element; modify(0, 0) ! Element; erase(0) ! Element
            """);
        SCRIPT.run("promise 1: one object's types, sets and records are not another's", """
            type(3) = 0; type(3) = 1
            set(0, 1, 0, 0) = 0
            store(0, 1, 2, 3) = 1
            """);
        SCRIPT.run("promise 1: nothing is declared, though another object was used before", """
            store(0, 0, 0, 0) ! Argument; find(1, 0) ! Element; members(0) ! Argument
            type(1) = 0
            """);
    }

    private static void fieldsOfAType() {
        for (int fields : new int[] {LEAST, -1, 0, 4, 5, GREATEST}) {
            SCRIPT.run("promise 2: fields is not 1 .. 3", "type(" + fields + ") ! Argument", "type(1) = 0");
        }
        for (int fields = 1; fields <= 3; fields++) {
            StringBuilder rows = new StringBuilder("type(" + fields + ") = 0; store(0, 7, 8, 9) = 1\n");
            for (int f = -1; f <= 3; f++) {
                boolean there = f >= 0 && f < fields;
                rows.append("get(").append(f).append(there ? ") = " + (7 + f) : ") ! Argument").append('\n');
            }
            SCRIPT.run("promise 2: a type with " + fields + " fields", rows.toString());
        }
    }

    private static void fourTypes() {
        SCRIPT.run("promise 2: its number; there are 4", """
            type(3) = 0; type(1) = 1; type(2) = 2
            current(1, 3) ! Argument
            type(1) = 3
            current(1, 3) = 0; current(1, 4) ! Argument
            type(1) ! State; type(2) ! State; type(3) ! State
            current(1, 4) ! Argument
            store(3, 0, 0, 0) = 1; store(4, 0, 0, 0) ! Argument
            """);
    }

    private static void typeWhenStored() {
        SCRIPT.run("promise 2: a record was stored: it is there", """
            type(1) = 0
            store(0, 0, 0, 0) = 1
            type(1) ! State; type(3) ! State
            store(1, 0, 0, 0) ! Argument
            """);
        SCRIPT.run("promise 2: a record was stored (ever): it has gone", """
            type(1) = 0; store(0, 0, 0, 0) = 1; erase(0) = 1; count() = 0
            type(1) ! State
            """);
        SCRIPT.run("promise 2: a record was stored (ever): it was rolled back", """
            type(1) = 0; store(0, 0, 0, 0) = 1; rollBack() = 0
            type(1) ! State
            """);
        SCRIPT.run("promise 2: a record was stored (ever): kept before it, rolled back behind it", """
            type(1) = 0; keep() = 0; store(0, 0, 0, 0) = 1; rollBack() = 0; keep() = 0
            type(1) ! State
            """);
        SCRIPT.run("promise 2: a store that throws has stored nothing", """
            type(1) = 0; store(1, 0, 0, 0) ! Argument; type(1) = 1
            set(0, 1, 0, 3) = 0; store(1, 0, 0, 0) ! Element; type(1) = 2
            keep() = 0; rollBack() = 0; type(1) = 3
            """);
    }

    private static void typesOfASet() {
        SCRIPT.run("promise 3: owner or member is no type: one beside those that there are", """
            type(1) = 0; type(1) = 1; type(1) = 2
            set(-1, 0, 0, 0) ! Argument; set(0, -1, 0, 0) ! Argument
            set(3, 0, 0, 0) ! Argument; set(0, 3, 0, 0) ! Argument
            set(2, 0, 0, 0) = 0; set(0, 2, 0, 0) = 1
            type(1) = 3
            set(3, 0, 0, 0) = 2; set(0, 3, 0, 0) = 3
            set(4, 0, 0, 0) ! Argument; set(0, 4, 0, 0) ! Argument
            """);
        SCRIPT.run("promise 3: also if owner is member", """
            type(3) = 0; type(3) = 1; type(3) = 2; type(3) = 3
            set(0, 0, 0, 0) ! Argument; set(1, 1, 0, 0) ! Argument
            set(2, 2, 0, 0) ! Argument; set(3, 3, 10, 5) ! Argument
            set(0, 1, 0, 0) = 0; set(1, 0, 0, 0) = 1; set(3, 2, 10, 5) = 2
            """);
        SCRIPT.run("promise 3: two sets may have the same types, order and class", """
            type(1) = 0; type(1) = 1
            set(0, 1, 0, 3) = 0; set(0, 1, 0, 3) = 1
            store(0, 0, 0, 0) = 1; store(1, 0, 0, 0) = 2; owner(0, 2) = 1; owner(1, 2) = 1
            """);
    }

    private static void ordersOfASet() {
        for (int fields = 1; fields <= 3; fields++) {
            for (int order = -2; order <= 45; order++) {
                boolean plain = order >= 0 && order <= 3;
                boolean sorted = order >= 10 && order < 40 && order % 10 < 3;
                String title = "promise 3: the order " + order + " with a member type of " + fields + " fields";
                boolean there = plain || sorted && order % 10 < fields;
                SCRIPT.run(title, "type(" + (4 - fields) + ") = 0; type(" + fields + ") = 1",
                    "set(0, 1, " + order + (there ? ", 0) = 0" : ", 0) ! Argument"),
                    "set(0, 1, 0, 0) = " + (there ? 1 : 0));
            }
        }
        for (int order : new int[] {LEAST, LEAST + 10, -32, -12, -10, 100, 110, 210, 310, 1 << 30, GREATEST}) {
            SCRIPT.run("promise 3: the order is none", "type(3) = 0; type(3) = 1",
                "set(0, 1, " + order + ", 0) ! Argument", "set(0, 1, 0, 0) = 0");
        }
        SCRIPT.run("promise 3: by a field that the member type has not, though the owner type has", """
            type(3) = 0; type(1) = 1
            set(0, 1, 11, 0) ! Argument; set(0, 1, 21, 0) ! Argument; set(0, 1, 32, 0) ! Argument
            set(1, 0, 11, 0) = 0; set(1, 0, 21, 0) = 1; set(1, 0, 32, 0) = 2
            """);
    }

    private static void classOfASet() {
        for (int kind : new int[] {LEAST, -3, -1, 0, 1, 2, 3, 4, 5, 6, 7, GREATEST}) {
            boolean there = kind >= 0 && kind <= 5;
            SCRIPT.run("promise 3: kind, its class, " + kind, "type(1) = 0; type(1) = 1",
                "set(0, 1, 0, " + kind + (there ? ") = 0" : ") ! Argument"), "set(0, 1, 0, 0) = " + (there ? 1 : 0));
        }
    }

    private static void fiveSets() {
        SCRIPT.run("promise 3: its number; there are 5", """
            type(1) = 0; type(1) = 1
            set(0, 1, 0, 0) = 0; set(1, 0, 1, 1) = 1; set(0, 1, 2, 2) = 2; set(1, 0, 3, 3) = 3
            current(2, 4) ! Argument
            set(0, 1, 10, 4) = 4
            current(2, 4) = 0; current(2, 5) ! Argument
            set(0, 1, 0, 0) ! State; set(1, 0, 30, 5) ! State
            current(2, 5) ! Argument; members(5) ! Argument
            type(1) = 2
            set(0, 2, 0, 0) ! State
            """);
    }

    private static void setWhenStored() {
        SCRIPT.run("promise 3: a record was stored: it is there", """
            type(1) = 0; type(1) = 1
            store(0, 0, 0, 0) = 1
            set(0, 1, 0, 0) ! State
            current(2, 0) ! Argument
            """);
        SCRIPT.run("promise 3: a record was stored (ever): it has gone", """
            type(1) = 0; type(1) = 1; store(0, 0, 0, 0) = 1; erase(0) = 1; count() = 0
            set(0, 1, 0, 0) ! State
            """);
        SCRIPT.run("promise 3: a record was stored (ever): it was rolled back", """
            type(1) = 0; type(1) = 1; store(0, 0, 0, 0) = 1; rollBack() = 0
            set(0, 1, 0, 0) ! State
            """);
        SCRIPT.run("promise 3: a store that throws has stored nothing", """
            type(1) = 0; type(1) = 1; store(2, 0, 0, 0) ! Argument; set(0, 1, 0, 3) = 0
            store(1, 0, 0, 0) ! Element; set(0, 1, 0, 3) = 1
            keep() = 0; rollBack() = 0; set(0, 1, 0, 3) = 2
            """);
    }

    private static void argumentBeforeState() {
        SCRIPT.run("promise 2: fields wrong and 4 types, or a record was stored: illegal argument", """
            type(1) = 0; type(1) = 1; type(1) = 2; type(1) = 3
            type(0) ! Argument; type(4) ! Argument; type(1) ! State
            store(0, 0, 0, 0) = 1
            type(0) ! Argument; type(4) ! Argument; type(3) ! State
            """);
        SCRIPT.run("promise 2: fields wrong and a record was stored: illegal argument", """
            type(1) = 0; store(0, 0, 0, 0) = 1
            type(0) ! Argument; type(4) ! Argument; type(3) ! State
            """);
        String wrong = """
            set(-1, 1, 0, 0) ! Argument; set(2, 1, 0, 0) ! Argument
            set(0, -1, 0, 0) ! Argument; set(0, 2, 0, 0) ! Argument; set(1, 1, 0, 0) ! Argument
            set(0, 1, -1, 0) ! Argument; set(0, 1, 4, 0) ! Argument; set(0, 1, 11, 0) ! Argument
            set(0, 1, 0, -1) ! Argument; set(0, 1, 0, 6) ! Argument
            set(0, 1, 0, 0) ! State
            """;
        SCRIPT.run("promise 3: something wrong and 5 sets: illegal argument", """
            type(1) = 0; type(1) = 1
            set(0, 1, 0, 0) = 0; set(0, 1, 0, 0) = 1; set(0, 1, 0, 0) = 2; set(0, 1, 0, 0) = 3; set(0, 1, 0, 0) = 4
            """, wrong);
        SCRIPT.run("promise 3: something wrong and a record was stored: illegal argument", """
            type(1) = 0; type(1) = 1; store(0, 0, 0, 0) = 1
            """, wrong);
    }
}
