import java.util.ArrayList;
import java.util.List;
import java.util.Set;

/**
 * Runs of calls that are written as text, one call a row: "move(0, 2) = 5" for an answer,
 * "find(3, 0)" for a call without one, "erase(0) ! State" for an exception
 * (Argument, Element or State). Behind each call that throws, and each that only tells
 * something, all that can be seen must be as it was.
 */
final class Script {
    private static final Set<String> TELLING = Set.of("current", "get", "members", "owner", "count");

    private int rows = 0;
    private int wrong = 0;

    /** Rows that come to an owner and walk its ring of a set there and back: these are its members. */
    static String ring(int set, int owner, int... members) {
        StringBuilder text = new StringBuilder("find(" + owner + ", 0); members(" + set + ") = " + members.length);
        for (int key : members) {
            text.append("; move(").append(set).append(", 2) = ").append(key);
        }
        text.append("; move(").append(set).append(", 2) ! Element");
        if (members.length > 0) {
            text.append("; find(").append(owner).append(", 0)");
        }
        for (int i = members.length - 1; i >= 0; i--) {
            text.append("; move(").append(set).append(", 3) = ").append(members[i]);
        }
        return text.append("; move(").append(set).append(", 3) ! Element\n").toString();
    }

    /** A run on a new object; the texts may hold several rows, each ended by a line's end or a semicolon. */
    void run(String title, String... texts) {
        OwnerRings rings = new OwnerRings();
        List<Call> made = new ArrayList<>();
        for (String row : String.join("\n", texts).split("[\n;]")) {
            if (!row.isBlank()) {
                check(title, rings, made, row.trim());
                made.add(Call.read(row));
            }
        }
        if (made.size() > Portrait.CALLS) {
            tellWrong(title + ": " + made.size() + " calls are more than the document allows");
        }
    }

    /** Tells how it went, and ends the program with 1 if an answer was wrong. */
    void end() {
        System.out.println(rows + " rows, " + wrong + " wrong");
        if (wrong != 0) {
            System.exit(1);
        }
    }

    private void check(String title, OwnerRings rings, List<Call> made, String row) {
        String where = title + ", row " + (made.size() + 1) + ": " + row;
        Call call = Call.read(row);
        String got = call.on(rings);
        String want = due(row.substring(row.indexOf(')') + 1).trim());
        rows++;
        if (!got.equals(want)) {
            tellWrong(where + " answered '" + got + "'");
        } else if (want.startsWith("throws.") || TELLING.contains(call.name())) {
            String change = Portrait.change(made, call);
            if (!change.isEmpty()) {
                tellWrong(where + " changed something: " + change);
            }
        }
    }

    private void tellWrong(String text) {
        wrong++;
        System.out.println(text);
    }

    private static String due(String text) {
        if (text.startsWith("=")) {
            return text.substring(1).trim();
        }
        switch (text) {
            case "":
                return "";
            case "! Argument":
                return "throws.IllegalArgumentException";
            case "! Element":
                return "throws.NoSuchElementException";
            case "! State":
                return "throws.IllegalStateException";
            default:
                throw new IllegalArgumentException("not a row's end: " + text);
        }
    }
}
