import java.util.ArrayList;
import java.util.Collections;
import java.util.HashMap;
import java.util.List;
import java.util.Map;
import java.util.NoSuchElementException;
import java.util.Set;
import java.util.TreeMap;
import java.util.TreeSet;

/**
 * The document once more, with lists and maps by key and no thought of room: what OwnerRings is
 * compared with. It shares no way of holding rings or of erasing with it.
 */
final class PlainRings {
    private record TypeOf(int fields) { }

    private record SetOf(int owner, int member, int order, int kind) { }

    private static final class Rec {
        final int type;
        final int[] f;

        Rec(int type, int[] f) {
            this.type = type;
            this.f = f.clone();
        }
    }

    private final List<TypeOf> types = new ArrayList<>();
    private final List<SetOf> sets = new ArrayList<>();
    private boolean ever = false;
    private TreeMap<Integer, Rec> recs = new TreeMap<>();
    /** Set number, owner's key: the members' keys. */
    private Map<List<Integer>, List<Integer>> rings = new HashMap<>();
    private int next = 1;
    private TreeMap<Integer, Rec> keptRecs = new TreeMap<>();
    private Map<List<Integer>, List<Integer>> keptRings = new HashMap<>();
    private int keptNext = 1;
    private int run = 0;
    private final int[] ofType = new int[4];
    private final int[] ofSet = new int[5];

    int type(int fields) {
        argument(fields >= 1 && fields <= 3);
        state(types.size() < 4 && !ever);
        types.add(new TypeOf(fields));
        return types.size() - 1;
    }

    int set(int owner, int member, int order, int kind) {
        argument(isType(owner) && isType(member) && owner != member);
        argument(List.of(0, 1, 2, 3, 10, 11, 12, 20, 21, 22, 30, 31, 32).contains(order));
        argument(order < 10 || order % 10 < types.get(member).fields());
        argument(List.of(0, 1, 2, 3, 4, 5).contains(kind));
        state(sets.size() < 5 && !ever);
        sets.add(new SetOf(owner, member, order, kind));
        return sets.size() - 1;
    }

    int store(int type, int a, int b, int c) {
        argument(isType(type));
        List<Integer> joined = new ArrayList<>();
        for (int s = 0; s < sets.size(); s++) {
            if (sets.get(s).member() == type && sets.get(s).kind() >= 3) {
                joined.add(s);
            }
        }
        for (int s : joined) {
            element(ownerNow(s) != 0);
        }
        state(recs.size() < 24);
        Rec rec = new Rec(type, new int[] {a, b, c});
        for (int s : joined) {
            state(!refused(s, ownerNow(s), 0, rec.f));
        }
        int key = next++;
        ever = true;
        recs.put(key, rec);
        for (int s : joined) {
            enter(s, ownerNow(s), key);
        }
        come(key, 0);
        return key;
    }

    void find(int key, int stay) {
        element(recs.containsKey(key));
        come(key, stay);
    }

    int seek(int type, int field, int value) {
        argument(isType(type) && field >= 0 && field < types.get(type).fields());
        for (Map.Entry<Integer, Rec> e : recs.entrySet()) {
            if (e.getValue().type == type && e.getValue().f[field] == value) {
                come(e.getKey(), 0);
                return e.getKey();
            }
        }
        throw new NoSuchElementException();
    }

    int move(int set, int how) {
        argument(isSet(set) && how >= 0 && how <= 4);
        element(ofSet[set] != 0);
        int owner = ownerNow(set);
        List<Integer> ring = ring(set, owner);
        int at = ring.indexOf(ofSet[set]);
        int to;
        if (how == 4) {
            to = owner;
        } else if (how == 0 || how == 2 && at < 0) {
            element(!ring.isEmpty());
            to = ring.get(0);
        } else if (how == 1 || how == 3 && at < 0) {
            element(!ring.isEmpty());
            to = ring.get(ring.size() - 1);
        } else {
            int beside = how == 2 ? at + 1 : at - 1;
            element(beside >= 0 && beside < ring.size());
            to = ring.get(beside);
        }
        come(to, 0);
        return to;
    }

    int scan(int set, int field, int value) {
        argument(isSet(set) && field >= 0 && field < types.get(sets.get(set).member()).fields());
        element(ofSet[set] != 0);
        List<Integer> ring = ring(set, ownerNow(set));
        List<Integer> behind = ring.subList(ring.indexOf(ofSet[set]) + 1, ring.size());
        int key = behind.stream().filter(k -> recs.get(k).f[field] == value).findFirst().orElseThrow();
        come(key, 0);
        return key;
    }

    int current(int what, int n) {
        argument(what == 0 || what == 1 && isType(n) || what == 2 && isSet(n));
        return what == 0 ? run : what == 1 ? ofType[n] : ofSet[n];
    }

    int get(int field) {
        element(run != 0);
        argument(field >= 0 && field < types.get(recs.get(run).type).fields());
        return recs.get(run).f[field];
    }

    void modify(int field, int v) {
        get(field);
        Rec rec = recs.get(run);
        if (rec.f[field] != v) {
            int[] then = rec.f.clone();
            then[field] = v;
            List<Integer> sorted = new ArrayList<>();
            for (int s = 0; s < sets.size(); s++) {
                if (sets.get(s).order() >= 10 && sets.get(s).order() % 10 == field && ownerOf(s, run) != 0) {
                    sorted.add(s);
                    state(!refused(s, ownerOf(s, run), run, then));
                }
            }
            rec.f[field] = v;
            for (int s : sorted) {
                int owner = ownerOf(s, run);
                ring(s, owner).remove((Integer) run);
                enter(s, owner, run);
            }
        }
        come(run, 0);
    }

    void connect(int set) {
        argument(isSet(set));
        element(run != 0 && ofSet[set] != 0);
        state(recs.get(run).type == sets.get(set).member() && ownerOf(set, run) == 0);
        int owner = ownerNow(set);
        state(!refused(set, owner, run, recs.get(run).f));
        enter(set, owner, run);
        come(run, 0);
    }

    void disconnect(int set) {
        argument(isSet(set));
        element(run != 0);
        int owner = ownerOf(set, run);
        state(owner != 0 && (sets.get(set).kind() == 2 || sets.get(set).kind() == 5));
        List<Integer> ring = ring(set, owner);
        int at = ring.indexOf(run);
        if (ofSet[set] == run) {
            ofSet[set] = at == 0 ? owner : ring.get(at - 1);
        }
        ring.remove(at);
    }

    void reconnect(int set) {
        argument(isSet(set));
        element(run != 0 && ofSet[set] != 0);
        int from = ownerOf(set, run);
        state(from != 0 && sets.get(set).kind() != 0 && sets.get(set).kind() != 3);
        int to = ownerNow(set);
        state(!refused(set, to, run, recs.get(run).f));
        ring(set, from).remove((Integer) run);
        enter(set, to, run);
        come(run, 0);
    }

    int erase(int mode) {
        argument(mode >= 0 && mode <= 3);
        element(run != 0);
        Set<Integer> going = new TreeSet<>();
        goWith(run, mode, going);
        for (Map.Entry<List<Integer>, List<Integer>> e : rings.entrySet()) {
            boolean ownerGoes = going.contains(e.getKey().get(1));
            boolean allGo = going.containsAll(e.getValue());
            int hold = sets.get(e.getKey().get(0)).kind() % 3;
            state(!(mode == 0 && ownerGoes && !e.getValue().isEmpty()));
            state(!(mode == 1 && ownerGoes && hold == 1 && !allGo));
        }
        for (int s = 0; s < sets.size(); s++) {
            ofSet[s] = standAfter(s, going);
        }
        for (int t = 0; t < 4; t++) {
            ofType[t] = going.contains(ofType[t]) ? 0 : ofType[t];
        }
        run = 0;
        recs.keySet().removeAll(going);
        rings.keySet().removeIf(k -> going.contains(k.get(1)));
        rings.values().forEach(r -> r.removeAll(going));
        return going.size();
    }

    int members(int set) {
        argument(isSet(set));
        element(ofSet[set] != 0);
        return ring(set, ownerNow(set)).size();
    }

    int owner(int set, int key) {
        argument(isSet(set));
        element(recs.containsKey(key));
        return ownerOf(set, key);
    }

    int keep() {
        keptRecs = copyRecs(recs);
        keptRings = copyRings(rings);
        keptNext = next;
        return recs.size();
    }

    int rollBack() {
        recs = copyRecs(keptRecs);
        rings = copyRings(keptRings);
        next = keptNext;
        run = 0;
        java.util.Arrays.fill(ofType, 0);
        java.util.Arrays.fill(ofSet, 0);
        return recs.size();
    }

    int count() {
        return recs.size();
    }

    List<Integer> keys() {
        return new ArrayList<>(recs.keySet());
    }

    List<Integer> possibleOwners(int set) {
        return keys().stream().filter(k -> recs.get(k).type == sets.get(set).owner()).toList();
    }

    List<Integer> possibleMembers(int set) {
        return keys().stream().filter(k -> recs.get(k).type == sets.get(set).member()).toList();
    }

    int memberType(int set) {
        return sets.get(set).member();
    }

    private int standAfter(int set, Set<Integer> going) {
        int here = ofSet[set];
        int owner = here == 0 ? 0 : ownerNow(set);
        if (owner == 0 || going.contains(owner)) {
            return 0;
        }
        if (!going.contains(here)) {
            return here;
        }
        List<Integer> ring = ring(set, owner);
        List<Integer> before = new ArrayList<>(ring.subList(0, ring.indexOf(here)));
        Collections.reverse(before);
        return before.stream().filter(k -> !going.contains(k)).findFirst().orElse(owner);
    }

    private void goWith(int key, int mode, Set<Integer> going) {
        if (!going.add(key)) {
            return;
        }
        for (int s = 0; s < sets.size(); s++) {
            int kind = sets.get(s).kind();
            boolean fixed = kind == 0 || kind == 3;
            boolean bound = kind == 1 || kind == 4;
            if (mode == 3 || mode >= 1 && fixed || mode == 2 && bound) {
                for (int k : ring(s, key)) {
                    goWith(k, mode, going);
                }
            }
        }
    }

    private boolean refused(int set, int owner, int self, int[] f) {
        int order = sets.get(set).order();
        return order >= 30 && ring(set, owner).stream()
                .anyMatch(k -> k != self && recs.get(k).f[order - 30] == f[order - 30]);
    }

    private void enter(int set, int owner, int key) {
        int order = sets.get(set).order();
        List<Integer> ring = ring(set, owner);
        int at = ring.indexOf(ofSet[set]);
        if (order == 0) {
            ring.add(0, key);
        } else if (order == 1) {
            ring.add(key);
        } else if (order == 2) {
            ring.add(at < 0 ? 0 : at + 1, key);
        } else if (order == 3) {
            ring.add(at < 0 ? ring.size() : at, key);
        } else {
            int field = order % 10;
            int v = recs.get(key).f[field];
            int i = 0;
            while (i < ring.size() && (recs.get(ring.get(i)).f[field] < v
                    || order / 10 == 2 && recs.get(ring.get(i)).f[field] == v)) {
                i++;
            }
            ring.add(i, key);
        }
    }

    private void come(int key, int stay) {
        run = key;
        ofType[recs.get(key).type] = key;
        for (int s = 0; s < sets.size(); s++) {
            if ((sets.get(s).owner() == recs.get(key).type || ownerOf(s, key) != 0)
                    && Math.floorDiv((long) stay, 1L << s) % 2 == 0) {
                ofSet[s] = key;
            }
        }
    }

    private int ownerNow(int set) {
        if (ofSet[set] == 0 || recs.get(ofSet[set]).type == sets.get(set).owner()) {
            return ofSet[set];
        }
        return ownerOf(set, ofSet[set]);
    }

    private int ownerOf(int set, int key) {
        for (Map.Entry<List<Integer>, List<Integer>> e : rings.entrySet()) {
            if (e.getKey().get(0) == set && e.getValue().contains(key)) {
                return e.getKey().get(1);
            }
        }
        return 0;
    }

    private List<Integer> ring(int set, int owner) {
        return rings.computeIfAbsent(List.of(set, owner), k -> new ArrayList<>());
    }

    private boolean isType(int t) {
        return t >= 0 && t < types.size();
    }

    private boolean isSet(int s) {
        return s >= 0 && s < sets.size();
    }

    private static TreeMap<Integer, Rec> copyRecs(TreeMap<Integer, Rec> from) {
        TreeMap<Integer, Rec> to = new TreeMap<>();
        from.forEach((k, r) -> to.put(k, new Rec(r.type, r.f)));
        return to;
    }

    private static Map<List<Integer>, List<Integer>> copyRings(Map<List<Integer>, List<Integer>> from) {
        Map<List<Integer>, List<Integer>> to = new HashMap<>();
        from.forEach((k, r) -> to.put(k, new ArrayList<>(r)));
        return to;
    }

    private static void argument(boolean good) {
        if (!good) {
            throw new IllegalArgumentException();
        }
    }

    private static void element(boolean good) {
        if (!good) {
            throw new NoSuchElementException();
        }
    }

    private static void state(boolean good) {
        if (!good) {
            throw new IllegalStateException();
        }
    }
}
