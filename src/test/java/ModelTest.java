import java.util.ArrayList;
import java.util.List;
import java.util.Map;
import java.util.Random;
import java.util.TreeMap;

/** All promises: long runs of mixed calls, each answered by OwnerRings and by PlainRings alike. */
public final class ModelTest {
    private static final int RUNS = 3000;
    private static final int CALLS_BEFORE_WALK = 400;
    private static final int FEW = 100;
    private static final int STEPS = 2;
    private static final int[] ORDERS = {0, 1, 2, 2, 2, 3, 3, 3, 10, 11, 12, 20, 21, 22, 30, 31, 32};
    /** The first ones are steps of several calls. */
    private static final String[] MIX = {
        "link", "uproot", "link", "link", "link", "uproot",
        "store", "store", "store", "store", "store", "store", "find", "find", "seek", "move", "move", "move", "scan",
        "scan", "modify", "modify", "connect", "disconnect", "disconnect", "reconnect",
        "erase", "erase", "keep", "rollBack", "get", "members", "owner", "current", "count"};

    /** How often each call ended in each way: a run that never gets there proves nothing. */
    private final Map<String, Integer> seen = new TreeMap<>();
    private final List<String> told = new ArrayList<>();
    private Random random;
    private OwnerRings rings;
    private PlainRings plain;
    private int types;
    private int sets;
    private int spread;
    private boolean differs;

    /** With an argument it also tells how often each call ended in each way. */
    public static void main(String[] args) {
        ModelTest test = new ModelTest();
        for (int run = 0; run < RUNS && !test.differs; run++) {
            test.oneRun(run);
        }
        boolean poor = !test.differs && test.tellPoorWays();
        if (args.length > 0) {
            test.seen.forEach((way, times) -> System.out.println(way + " " + times));
        }
        System.out.println(test.differs ? "the runs differ" : RUNS + " runs answered alike");
        if (test.differs || poor) {
            System.exit(1);
        }
    }

    private void oneRun(int run) {
        random = new Random(run);
        rings = new OwnerRings();
        plain = new PlainRings();
        told.clear();
        declare();
        // Runs differ in how often records go, or few would ever hold 24 records.
        spread = 3 + random.nextInt(6);
        int sparing = 1 + random.nextInt(12);
        while (told.size() < CALLS_BEFORE_WALK && !differs) {
            String name = MIX[random.nextInt(MIX.length)];
            boolean goes = List.of("erase", "uproot", "rollBack").contains(name);
            if (!goes || random.nextInt(sparing) == 0) {
                step(name);
            }
            if (random.nextInt(30) == 0) {
                compareCurrents();
            }
        }
        walkRings();
        if (differs) {
            told.forEach(System.out::println);
        }
    }

    private void step(String name) {
        if (name.equals("link") && sets > 0) {
            link(random.nextInt(sets));
        } else if (name.equals("uproot") && sets > 0) {
            call("find", oneOf(plain.possibleOwners(random.nextInt(sets))), 0);
            call("erase", near(0, 3));
        } else if (name.equals("modify") && random.nextBoolean()) {
            call("find", key(), random.nextInt(32));
            call("modify", near(0, 1), value());
        } else if (List.of(MIX).indexOf(name) >= STEPS) {
            call(name, argumentsOf(name));
        }
    }

    private void declare() {
        types = 0;
        sets = 0;
        int wantedTypes = 2 + random.nextInt(4);
        for (int i = 0; i < wantedTypes; i++) {
            call("type", near(1, 3));
        }
        int wantedSets = 1 + random.nextInt(7);
        for (int i = 0; i < 3 * wantedSets && sets < wantedSets; i++) {
            int order = random.nextInt(20) == 0 ? random.nextInt(45) - 2 : ORDERS[random.nextInt(ORDERS.length)];
            call("set", near(0, types - 1), near(0, types - 1), order, near(0, 5));
        }
    }

    /** Brings a record to a ring that may take it: calls that are drawn one by one seldom do. */
    private void link(int set) {
        call("find", oneOf(plain.possibleOwners(set)), 0);
        if (random.nextInt(3) == 0) {
            call("move", set, random.nextInt(4));
        }
        if (random.nextInt(3) == 0) {
            call("store", plain.memberType(set), value(), value(), value());
        } else {
            call("find", oneOf(plain.possibleMembers(set)), 1 << set);
            call(random.nextInt(3) == 0 ? "reconnect" : "connect", set);
        }
    }

    private int[] argumentsOf(String name) {
        switch (name) {
            case "store":
                return new int[] {near(0, types - 1), value(), value(), value()};
            case "find":
                return new int[] {key(), random.nextBoolean() ? 0 : random.nextInt(64) - 16};
            case "seek":
                return new int[] {near(0, types - 1), near(0, 2), value()};
            case "move":
                return new int[] {near(0, sets - 1), near(0, 4)};
            case "scan":
                return new int[] {near(0, sets - 1), near(0, 1), value()};
            case "current":
                return new int[] {near(0, 2), near(0, 4)};
            case "get":
                return new int[] {near(0, 2)};
            case "modify":
                return new int[] {near(0, 1), value()};
            case "erase":
                return new int[] {near(0, 3)};
            case "owner":
                return new int[] {near(0, sets - 1), key()};
            case "keep":
            case "rollBack":
            case "count":
                return new int[0];
            default:
                return new int[] {near(0, sets - 1)};
        }
    }

    /** From the range, but now and then beside it. */
    private int near(int low, int high) {
        return random.nextInt(40) == 0 ? (random.nextBoolean() ? low - 1 : high + 1)
                : low + random.nextInt(Math.max(1, high - low + 1));
    }

    private int value() {
        int[] far = {Integer.MIN_VALUE, Integer.MAX_VALUE};
        return random.nextInt(15) == 0 ? far[random.nextInt(2)] : random.nextInt(spread) - 2;
    }

    private int key() {
        return random.nextInt(12) == 0 ? random.nextInt(60) - 1 : oneOf(plain.keys());
    }

    private int oneOf(List<Integer> keys) {
        return keys.isEmpty() ? 0 : keys.get(random.nextInt(keys.size()));
    }

    /** Answers false if the call threw, or was not made because no call is left or an answer was wrong. */
    private boolean call(String name, int... args) {
        if (told.size() >= Portrait.CALLS || differs) {
            return false;
        }
        Call call = new Call(name, args);
        String got = call.on(rings);
        String due = call.on(plain);
        boolean threw = due.startsWith("throws");
        if (name.equals("type") && !threw) {
            types++;
        }
        if (name.equals("set") && !threw) {
            sets++;
        }
        told.add(call + " " + got);
        String modeOfErase = name.equals("erase") ? args[0] + " " : "";
        seen.merge(name + " " + modeOfErase + (threw ? due : "answers"), 1, Integer::sum);
        if (!got.equals(due)) {
            differs = true;
            told.add("due is " + due);
        }
        return !threw && !differs;
    }

    private void compareCurrents() {
        call("current", 0, 0);
        for (int t = 0; t < types; t++) {
            call("current", 1, t);
        }
        for (int s = 0; s < sets; s++) {
            call("current", 2, s);
            call("members", s);
        }
        call("count");
    }

    private void walkRings() {
        int first = random.nextInt(Math.max(1, sets));
        for (int i = 0; i < sets; i++) {
            int s = (first + i) % sets;
            for (int key : plain.possibleOwners(s)) {
                call("find", key, 0);
                while (call("move", s, 2)) {
                    call("get", 0);
                    call("owner", s, plain.current(0, 0));
                }
            }
        }
    }

    private boolean tellPoorWays() {
        String[] ways = {
            "type A S", "set A S", "store A E S", "find E", "seek A E", "move A E", "scan A E", "current A", "get E A",
            "modify E A S", "connect A E S", "disconnect A E S", "reconnect A E S", "erase_0 E S", "erase_1 E S",
            "erase_2 E", "erase_3 E", "members A E", "owner A E", "keep", "rollBack", "count"};
        boolean poor = false;
        for (String line : ways) {
            String[] words = line.split(" ");
            for (int i = 0; i < words.length; i++) {
                String way = words[0].replace('_', ' ') + (i == 0 ? " answers" : " throws." + exceptionOf(words[i]));
                if (seen.getOrDefault(way, 0) < FEW) {
                    poor = true;
                    System.out.println("seen too seldom: " + way);
                }
            }
        }
        return poor;
    }

    private static String exceptionOf(String letter) {
        return letter.equals("A") ? "IllegalArgumentException"
                : letter.equals("E") ? "NoSuchElementException" : "IllegalStateException";
    }
}
