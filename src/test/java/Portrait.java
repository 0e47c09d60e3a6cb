import java.util.ArrayList;
import java.util.List;

/**
 * All that can be seen of an object after a run of calls. To look at it changes it, so each view
 * is taken of a new object on which the run was made again.
 */
final class Portrait {
    /** What an object is used for at most. */
    static final int CALLS = 512;
    private static final int TYPES = 4;
    private static final int SETS = 5;
    private static final int FIELDS = 3;

    private final List<Call> run;
    private final int lastKey;
    private final List<String> seen = new ArrayList<>();
    private OwnerRings rings;
    private int calls;

    private Portrait(List<Call> run, int lastKey) {
        this.run = run;
        this.lastKey = lastKey;
    }

    /** What the last call behind a run has changed, or "" if that is nothing. */
    static String change(List<Call> run, Call last) {
        List<Call> longer = new ArrayList<>(run);
        longer.add(last);
        int lastKey = 1 + (int) longer.stream().filter(c -> c.name().equals("store")).count();
        // One call more has been made on the second object, so both looks end by its count.
        List<String> before = new Portrait(run, lastKey).views(1);
        List<String> after = new Portrait(longer, lastKey).views(0);
        for (int i = 0; i < before.size(); i++) {
            if (!before.get(i).equals(after.get(i))) {
                return before.get(i) + " became " + after.get(i);
            }
        }
        return "";
    }

    private List<String> views(int callsToSpare) {
        begin(callsToSpare);
        standing();
        for (int s = 0; s < SETS; s++) {
            begin(callsToSpare);
            ringsOf(s);
        }
        for (int s = 0; s < SETS; s++) {
            begin(callsToSpare);
            look("rollBack");
            ringsOf(s);
        }
        begin(callsToSpare);
        nextKeys();
        begin(callsToSpare);
        look("rollBack");
        nextKeys();
        begin(callsToSpare);
        declared();
        return seen;
    }

    private void begin(int callsToSpare) {
        rings = new OwnerRings();
        calls = callsToSpare;
        for (Call call : run) {
            call.on(rings);
            calls++;
        }
    }

    private boolean look(String name, int... args) {
        if (calls >= CALLS) {
            return false;
        }
        calls++;
        Call call = new Call(name, args);
        String got = call.on(rings);
        seen.add(call + " = " + got);
        return !got.startsWith("throws.");
    }

    private void standing() {
        look("count");
        look("current", 0, 0);
        for (int t = 0; t < TYPES; t++) {
            look("current", 1, t);
        }
        for (int s = 0; s < SETS; s++) {
            look("current", 2, s);
            look("members", s);
        }
        for (int f = 0; f < FIELDS; f++) {
            look("get", f);
        }
    }

    private void ringsOf(int set) {
        for (int key = 1; key <= lastKey; key++) {
            look("owner", set, key);
        }
        for (int key = 1; key <= lastKey; key++) {
            if (look("find", key, 0)) {
                for (int f = 0; f < FIELDS; f++) {
                    look("get", f);
                }
                look("members", set);
                walk(set);
            }
        }
    }

    private void walk(int set) {
        boolean more = look("move", set, 0);
        while (more) {
            more = look("move", set, 2);
        }
    }

    private void nextKeys() {
        storeOfEachType();
        for (int key = 1; key <= lastKey; key++) {
            if (look("find", key, 0)) {
                look("erase", 3);
            }
        }
        storeOfEachType();
    }

    private void storeOfEachType() {
        for (int t = 0; t < TYPES; t++) {
            look("store", t, 99, 99, 99);
        }
    }

    private void declared() {
        while (look("type", 1)) {
            look("count");
        }
        for (int owner = 0; owner < TYPES; owner++) {
            look("set", owner, (owner + 1) % TYPES, 32, 0);
        }
        while (look("set", 0, 1, 0, 0)) {
            look("count");
        }
    }
}
