import java.util.NoSuchElementException;

/**
 * A base of records that own each other in rings.
 *
 * A record lies at a PLACE, 0 to 23, which it keeps until it goes; places, not keys, stand in
 * the rows below, because keys grow without end and places do not.
 */
public final class OwnerRings {
    private static final int NONE = -1;
    private static final int MAX_TYPES = 4;
    private static final int MAX_FIELDS = 3;
    private static final int MAX_SETS = 5;
    private static final int MAX_RECORDS = 24;

    private static final int FIRST = 0;
    private static final int LAST = 1;
    private static final int NEXT = 2;
    private static final int PRIOR = 3;
    private static final int SORTED = 10;
    private static final int SORTED_BEHIND_EQUALS = 20;
    private static final int SORTED_WITHOUT_EQUALS = 30;
    private static final int BEYOND_ORDERS = 40;

    private static final int AUTOMATIC = 3;
    private static final int CLASSES = 6;
    private static final int FIXED = 0;
    private static final int BOUND = 1;
    private static final int FREE = 2;

    private static final int TO_FIRST = 0;
    private static final int TO_LAST = 1;
    private static final int TO_NEXT = 2;
    private static final int TO_PRIOR = 3;
    private static final int TO_OWNER = 4;

    private static final int OF_RUN = 0;
    private static final int OF_TYPE = 1;
    private static final int OF_SET = 2;

    private static final int ERASE_ALONE = 0;
    private static final int ERASE_FIXED = 1;
    private static final int ERASE_ANY = 3;

    private final Plan plan;
    private final Base base;
    private final Base keptBase;
    private final Stand stand;
    private boolean everStored;

    public OwnerRings() {
        plan = new Plan();
        base = new Base();
        keptBase = new Base();
        stand = new Stand();
        everStored = false;
    }

    public int type(int fields) throws IllegalArgumentException, IllegalStateException {
        if (fields < 1 || fields > MAX_FIELDS) {
            throw new IllegalArgumentException("a type has 1 to 3 fields");
        }
        if (plan.typeCount >= MAX_TYPES || everStored) {
            throw new IllegalStateException("no more types can be declared");
        }
        return plan.addType(fields);
    }

    public int set(int owner, int member, int order, int kind)
            throws IllegalArgumentException, IllegalStateException {
        if (!plan.hasType(owner) || !plan.hasType(member) || owner == member) {
            throw new IllegalArgumentException("a set needs two types");
        }
        if (!plan.isOrder(order, member) || kind < 0 || kind >= CLASSES) {
            throw new IllegalArgumentException("no such order or class");
        }
        if (plan.setCount >= MAX_SETS || everStored) {
            throw new IllegalStateException("no more sets can be declared");
        }
        return plan.addSet(owner, member, order, kind);
    }

    public int store(int type, int a, int b, int c)
            throws IllegalArgumentException, NoSuchElementException, IllegalStateException {
        if (!plan.hasType(type)) {
            throw new IllegalArgumentException("no such type");
        }
        requireOwnersToJoin(type);
        int place = base.freePlace();
        if (place == NONE) {
            throw new IllegalStateException("there are 24 records");
        }
        // A free place's fields are nobody's, so a refusal behind this line leaves no trace.
        base.writeFields(place, a, b, c);
        requireNoRefusalToJoin(type, place);
        base.addRecord(place, type);
        everStored = true;
        for (int s = 0; s < plan.setCount; s++) {
            if (plan.joinsWhenStored(s, type)) {
                join(s, place, currentOwner(s));
            }
        }
        comeTo(place, 0);
        return base.keys[place];
    }

    public void find(int key, int stay) throws NoSuchElementException {
        comeTo(requireRecord(key), stay);
    }

    public int seek(int type, int field, int value) throws IllegalArgumentException, NoSuchElementException {
        if (!plan.hasField(type, field)) {
            throw new IllegalArgumentException("no such type or field");
        }
        return comeToExisting(base.lowestKeyed(type, field, value));
    }

    public int move(int set, int how) throws IllegalArgumentException, NoSuchElementException {
        requireSet(set);
        if (how < TO_FIRST || how > TO_OWNER) {
            throw new IllegalArgumentException("no such way to move");
        }
        return comeToExisting(placeToMoveTo(set, how));
    }

    public int scan(int set, int field, int value) throws IllegalArgumentException, NoSuchElementException {
        requireSet(set);
        if (!plan.hasField(plan.memberType[set], field)) {
            throw new IllegalArgumentException("no such field");
        }
        int owner = requireCurrentOwner(set);
        int from = base.positions[set][stand.ofSet[set]] + 1;
        return comeToExisting(base.memberWithValue(set, owner, from, field, value));
    }

    public int current(int what, int n) throws IllegalArgumentException {
        if (what == OF_RUN) {
            return base.keyAt(stand.ofRun);
        }
        if (what == OF_TYPE && plan.hasType(n)) {
            return base.keyAt(stand.ofType[n]);
        }
        if (what == OF_SET && plan.hasSet(n)) {
            return base.keyAt(stand.ofSet[n]);
        }
        throw new IllegalArgumentException("nothing that has a current record");
    }

    public int get(int field) throws NoSuchElementException, IllegalArgumentException {
        int place = requireRunRecord();
        requireFieldOf(place, field);
        return base.fields[field][place];
    }

    public void modify(int field, int v)
            throws NoSuchElementException, IllegalArgumentException, IllegalStateException {
        int place = requireRunRecord();
        requireFieldOf(place, field);
        if (base.fields[field][place] != v) {
            requireNoRefusalToSort(place, field, v);
            base.fields[field][place] = v;
            sortAgain(place, field);
        }
        comeTo(place, 0);
    }

    public void connect(int set) throws IllegalArgumentException, NoSuchElementException, IllegalStateException {
        requireSet(set);
        int place = requireRunRecord();
        int owner = requireCurrentOwner(set);
        if (base.types[place] != plan.memberType[set] || base.isMember(set, place)) {
            throw new IllegalStateException("it cannot become a member");
        }
        requireNoRefusal(set, place, owner);
        join(set, place, owner);
        comeTo(place, 0);
    }

    public void disconnect(int set) throws IllegalArgumentException, NoSuchElementException, IllegalStateException {
        requireSet(set);
        int place = requireRunRecord();
        if (!base.isMember(set, place) || plan.hold(set) != FREE) {
            throw new IllegalStateException("it cannot leave");
        }
        stepBack(set, 1 << place);
        base.takeOut(set, place);
    }

    public void reconnect(int set) throws IllegalArgumentException, NoSuchElementException, IllegalStateException {
        requireSet(set);
        int place = requireRunRecord();
        int owner = requireCurrentOwner(set);
        if (!base.isMember(set, place) || plan.hold(set) == FIXED) {
            throw new IllegalStateException("it cannot change its ring");
        }
        requireNoRefusal(set, place, owner);
        base.takeOut(set, place);
        join(set, place, owner);
        comeTo(place, 0);
    }

    public int erase(int mode) throws IllegalArgumentException, NoSuchElementException, IllegalStateException {
        if (mode < ERASE_ALONE || mode > ERASE_ANY) {
            throw new IllegalArgumentException("no such mode");
        }
        int place = requireRunRecord();
        int going = allThatGo(place, mode);
        if (mode == ERASE_ALONE && ownsMembers(place)) {
            throw new IllegalStateException("it owns members");
        }
        if (mode == ERASE_FIXED && boundOneWouldStay(going)) {
            throw new IllegalStateException("a bound member would be without a ring");
        }
        standWithout(going);
        removeAll(going);
        return Integer.bitCount(going);
    }

    public int members(int set) throws IllegalArgumentException, NoSuchElementException {
        requireSet(set);
        return base.ringSize(set, requireCurrentOwner(set));
    }

    public int owner(int set, int key) throws IllegalArgumentException, NoSuchElementException {
        requireSet(set);
        return base.keyAt(base.owners[set][requireRecord(key)]);
    }

    public int keep() {
        keptBase.copyFrom(base);
        return base.recordCount;
    }

    public int rollBack() {
        base.copyFrom(keptBase);
        stand.clear();
        return base.recordCount;
    }

    public int count() {
        return base.recordCount;
    }

    private void requireSet(int set) {
        if (!plan.hasSet(set)) {
            throw new IllegalArgumentException("no such set");
        }
    }

    private void requireFieldOf(int place, int field) {
        if (!plan.hasField(base.types[place], field)) {
            throw new IllegalArgumentException("no such field");
        }
    }

    private int requireRecord(int key) {
        int place = base.placeOf(key);
        if (place == NONE) {
            throw new NoSuchElementException("no record with this key");
        }
        return place;
    }

    private int requireRunRecord() {
        if (stand.ofRun == NONE) {
            throw new NoSuchElementException("no record is current of the run");
        }
        return stand.ofRun;
    }

    private int requireCurrentOwner(int set) {
        int owner = currentOwner(set);
        if (owner == NONE) {
            throw new NoSuchElementException("the set has no current owner");
        }
        return owner;
    }

    private void requireOwnersToJoin(int type) {
        for (int s = 0; s < plan.setCount; s++) {
            if (plan.joinsWhenStored(s, type)) {
                requireCurrentOwner(s);
            }
        }
    }

    private void requireNoRefusalToJoin(int type, int place) {
        for (int s = 0; s < plan.setCount; s++) {
            if (plan.joinsWhenStored(s, type)) {
                requireNoRefusal(s, place, currentOwner(s));
            }
        }
    }

    private void requireNoRefusal(int set, int place, int owner) {
        if (plan.isSorted(set)) {
            requireNoEqual(set, place, owner, base.fields[plan.sortField(set)][place]);
        }
    }

    private void requireNoRefusalToSort(int place, int field, int value) {
        for (int s = 0; s < plan.setCount; s++) {
            if (plan.isSortedBy(s, field) && base.isMember(s, place)) {
                requireNoEqual(s, place, base.owners[s][place], value);
            }
        }
    }

    private void requireNoEqual(int set, int place, int owner, int value) {
        if (plan.order[set] >= SORTED_WITHOUT_EQUALS
                && base.hasOtherWithValue(set, owner, place, plan.sortField(set), value)) {
            throw new IllegalStateException("the ring has a member with this value");
        }
    }

    private int currentOwner(int set) {
        int place = stand.ofSet[set];
        if (place == NONE || base.types[place] == plan.ownerType[set]) {
            return place;
        }
        return base.owners[set][place];
    }

    private int comeToExisting(int place) {
        if (place == NONE) {
            throw new NoSuchElementException("no such record");
        }
        comeTo(place, 0);
        return base.keys[place];
    }

    private void comeTo(int place, int stay) {
        int type = base.types[place];
        stand.ofRun = place;
        stand.ofType[type] = place;
        for (int s = 0; s < plan.setCount; s++) {
            boolean concerned = plan.ownerType[s] == type || base.isMember(s, place);
            if (concerned && !hasBit(stay, s)) {
                stand.ofSet[s] = place;
            }
        }
    }

    private int placeToMoveTo(int set, int how) {
        int current = stand.ofSet[set];
        int owner = currentOwner(set);
        if (current == NONE || owner == NONE) {
            return NONE;
        }
        // The owner's own position is -1, so the one behind it is the first member.
        int position = base.positions[set][current];
        int size = base.ringSize(set, owner);
        switch (how) {
            case TO_FIRST:
                return base.memberAt(set, owner, 0);
            case TO_LAST:
                return base.memberAt(set, owner, size - 1);
            case TO_NEXT:
                return base.memberAt(set, owner, position + 1);
            case TO_PRIOR:
                return base.memberAt(set, owner, current == owner ? size - 1 : position - 1);
            default:
                return owner;
        }
    }

    /** The record must be in no ring of the set: a current one that has just left counts as elsewhere. */
    private void join(int set, int place, int owner) {
        base.putIn(set, place, owner, positionByOrder(set, place, owner));
    }

    private int positionByOrder(int set, int place, int owner) {
        int current = stand.ofSet[set];
        boolean beside = current != NONE && base.owners[set][current] == owner;
        int size = base.ringSize(set, owner);
        switch (plan.order[set]) {
            case FIRST:
                return 0;
            case LAST:
                return size;
            case NEXT:
                return beside ? base.positions[set][current] + 1 : 0;
            case PRIOR:
                return beside ? base.positions[set][current] : size;
            default:
                return positionByValue(set, place, owner);
        }
    }

    private int positionByValue(int set, int place, int owner) {
        boolean behindEquals = plan.order[set] >= SORTED_BEHIND_EQUALS;
        int[] values = base.fields[plan.sortField(set)];
        int position = 0;
        for (int p = 0; p < MAX_RECORDS; p++) {
            boolean before = values[p] < values[place] || behindEquals && values[p] == values[place];
            if (base.owners[set][p] == owner && before) {
                position++;
            }
        }
        return position;
    }

    private void sortAgain(int place, int field) {
        for (int s = 0; s < plan.setCount; s++) {
            if (plan.isSortedBy(s, field) && base.isMember(s, place)) {
                int owner = base.owners[s][place];
                base.takeOut(s, place);
                join(s, place, owner);
            }
        }
    }

    /** Bit p of the answer tells that the record at place p goes. */
    private int allThatGo(int place, int mode) {
        int going = 1 << place;
        // Each round but the last adds a record, so there are no more rounds than records.
        for (int round = 0; round < MAX_RECORDS; round++) {
            int more = going;
            for (int s = 0; s < plan.setCount; s++) {
                if (plan.goesWithOwner(s, mode)) {
                    more |= base.membersOwnedBy(s, going);
                }
            }
            if (more == going) {
                break;
            }
            going = more;
        }
        return going;
    }

    private boolean ownsMembers(int place) {
        for (int s = 0; s < plan.setCount; s++) {
            if (base.ringSize(s, place) > 0) {
                return true;
            }
        }
        return false;
    }

    private boolean boundOneWouldStay(int going) {
        for (int s = 0; s < plan.setCount; s++) {
            if (plan.hold(s) == BOUND && (base.membersOwnedBy(s, going) & ~going) != 0) {
                return true;
            }
        }
        return false;
    }

    private void standWithout(int going) {
        if (hasBit(going, stand.ofRun)) {
            stand.ofRun = NONE;
        }
        for (int t = 0; t < plan.typeCount; t++) {
            if (hasBit(going, stand.ofType[t])) {
                stand.ofType[t] = NONE;
            }
        }
        for (int s = 0; s < plan.setCount; s++) {
            stepBack(s, going);
        }
    }

    /** Sets the current one of a set for when these records have left their rings of it. */
    private void stepBack(int set, int leaving) {
        int owner = currentOwner(set);
        if (owner == NONE) {
            return;
        }
        if (hasBit(leaving, owner)) {
            stand.ofSet[set] = NONE;
            return;
        }
        int position = base.positions[set][stand.ofSet[set]];
        while (position >= 0 && hasBit(leaving, base.memberAt(set, owner, position))) {
            position--;
        }
        stand.ofSet[set] = position >= 0 ? base.memberAt(set, owner, position) : owner;
    }

    private void removeAll(int going) {
        for (int s = 0; s < plan.setCount; s++) {
            int leaving = going | base.membersOwnedBy(s, going);
            for (int p = 0; p < MAX_RECORDS; p++) {
                if (hasBit(leaving, p)) {
                    base.takeOut(s, p);
                }
            }
        }
        for (int p = 0; p < MAX_RECORDS; p++) {
            if (hasBit(going, p)) {
                base.dropRecord(p);
            }
        }
    }

    private static boolean hasBit(int bits, int n) {
        return n >= 0 && (bits >> n & 1) != 0;
    }

    /** The types and sets that are declared. */
    private static final class Plan {
        int typeCount = 0;
        int setCount = 0;
        final int[] fieldCount = new int[MAX_TYPES];
        final int[] ownerType = new int[MAX_SETS];
        final int[] memberType = new int[MAX_SETS];
        final int[] order = new int[MAX_SETS];
        final int[] kind = new int[MAX_SETS];

        boolean hasType(int type) {
            return type >= 0 && type < typeCount;
        }

        boolean hasSet(int set) {
            return set >= 0 && set < setCount;
        }

        boolean hasField(int type, int field) {
            return hasType(type) && field >= 0 && field < fieldCount[type];
        }

        boolean isOrder(int number, int member) {
            if (number >= FIRST && number <= PRIOR) {
                return true;
            }
            return number >= SORTED && number < BEYOND_ORDERS && hasField(member, number % 10);
        }

        int addType(int fields) {
            fieldCount[typeCount] = fields;
            typeCount++;
            return typeCount - 1;
        }

        int addSet(int owner, int member, int newOrder, int newKind) {
            ownerType[setCount] = owner;
            memberType[setCount] = member;
            order[setCount] = newOrder;
            kind[setCount] = newKind;
            setCount++;
            return setCount - 1;
        }

        boolean joinsWhenStored(int set, int type) {
            return memberType[set] == type && kind[set] >= AUTOMATIC;
        }

        /** FIXED, BOUND or FREE. */
        int hold(int set) {
            return kind[set] % 3;
        }

        /** Each mode of erasing takes one more of FIXED, BOUND and FREE along, in this order. */
        boolean goesWithOwner(int set, int mode) {
            return hold(set) < mode;
        }

        boolean isSorted(int set) {
            return order[set] >= SORTED;
        }

        int sortField(int set) {
            return order[set] % 10;
        }

        boolean isSortedBy(int set, int field) {
            return isSorted(set) && sortField(set) == field;
        }
    }

    /** The records and their rings: all that is kept and rolled back. */
    private static final class Base {
        int recordCount = 0;
        int nextKey = 1;
        /** By place; 0 where no record lies. */
        final int[] keys = new int[MAX_RECORDS];
        final int[] types = new int[MAX_RECORDS];
        /** By field and place. */
        final int[][] fields = new int[MAX_FIELDS][MAX_RECORDS];
        /** By set and place: the place of the owner of the ring that the record is in, or NONE. */
        final int[][] owners = new int[MAX_SETS][MAX_RECORDS];
        /** By set and place: how many members are before the record in its ring, or NONE. */
        final int[][] positions = new int[MAX_SETS][MAX_RECORDS];

        Base() {
            for (int s = 0; s < MAX_SETS; s++) {
                for (int p = 0; p < MAX_RECORDS; p++) {
                    owners[s][p] = NONE;
                    positions[s][p] = NONE;
                }
            }
        }

        void copyFrom(Base other) {
            recordCount = other.recordCount;
            nextKey = other.nextKey;
            System.arraycopy(other.keys, 0, keys, 0, MAX_RECORDS);
            System.arraycopy(other.types, 0, types, 0, MAX_RECORDS);
            for (int f = 0; f < MAX_FIELDS; f++) {
                System.arraycopy(other.fields[f], 0, fields[f], 0, MAX_RECORDS);
            }
            for (int s = 0; s < MAX_SETS; s++) {
                System.arraycopy(other.owners[s], 0, owners[s], 0, MAX_RECORDS);
                System.arraycopy(other.positions[s], 0, positions[s], 0, MAX_RECORDS);
            }
        }

        int freePlace() {
            for (int p = 0; p < MAX_RECORDS; p++) {
                if (keys[p] == 0) {
                    return p;
                }
            }
            return NONE;
        }

        int placeOf(int key) {
            for (int p = 0; p < MAX_RECORDS; p++) {
                if (keys[p] != 0 && keys[p] == key) {
                    return p;
                }
            }
            return NONE;
        }

        int keyAt(int place) {
            return place == NONE ? 0 : keys[place];
        }

        void writeFields(int place, int a, int b, int c) {
            fields[0][place] = a;
            fields[1][place] = b;
            fields[2][place] = c;
        }

        void addRecord(int place, int type) {
            keys[place] = nextKey;
            types[place] = type;
            nextKey++;
            recordCount++;
        }

        void dropRecord(int place) {
            keys[place] = 0;
            recordCount--;
        }

        int lowestKeyed(int type, int field, int value) {
            int best = NONE;
            for (int p = 0; p < MAX_RECORDS; p++) {
                boolean fits = keys[p] != 0 && types[p] == type && fields[field][p] == value;
                if (fits && (best == NONE || keys[p] < keys[best])) {
                    best = p;
                }
            }
            return best;
        }

        boolean isMember(int set, int place) {
            return owners[set][place] != NONE;
        }

        int ringSize(int set, int owner) {
            int size = 0;
            for (int p = 0; p < MAX_RECORDS; p++) {
                if (owners[set][p] == owner) {
                    size++;
                }
            }
            return size;
        }

        /** NONE if the position is before or behind all members. */
        int memberAt(int set, int owner, int position) {
            for (int p = 0; p < MAX_RECORDS; p++) {
                if (owners[set][p] == owner && positions[set][p] == position) {
                    return p;
                }
            }
            return NONE;
        }

        int memberWithValue(int set, int owner, int from, int field, int value) {
            int size = ringSize(set, owner);
            for (int i = from; i < size; i++) {
                int place = memberAt(set, owner, i);
                if (place != NONE && fields[field][place] == value) {
                    return place;
                }
            }
            return NONE;
        }

        boolean hasOtherWithValue(int set, int owner, int place, int field, int value) {
            for (int p = 0; p < MAX_RECORDS; p++) {
                if (p != place && owners[set][p] == owner && fields[field][p] == value) {
                    return true;
                }
            }
            return false;
        }

        /** As bits by place, like the owners that are given. */
        int membersOwnedBy(int set, int ownerBits) {
            int bits = 0;
            for (int p = 0; p < MAX_RECORDS; p++) {
                if (hasBit(ownerBits, owners[set][p])) {
                    bits |= 1 << p;
                }
            }
            return bits;
        }

        void putIn(int set, int place, int owner, int position) {
            shiftRing(set, owner, position, 1);
            owners[set][place] = owner;
            positions[set][place] = position;
        }

        void takeOut(int set, int place) {
            int owner = owners[set][place];
            if (owner == NONE) {
                return;
            }
            int position = positions[set][place];
            owners[set][place] = NONE;
            positions[set][place] = NONE;
            shiftRing(set, owner, position, -1);
        }

        void shiftRing(int set, int owner, int from, int by) {
            for (int p = 0; p < MAX_RECORDS; p++) {
                if (owners[set][p] == owner && positions[set][p] >= from) {
                    positions[set][p] += by;
                }
            }
        }
    }

    /** The places of the current records, or NONE. */
    private static final class Stand {
        int ofRun = NONE;
        final int[] ofType = new int[MAX_TYPES];
        final int[] ofSet = new int[MAX_SETS];

        Stand() {
            clear();
        }

        void clear() {
            ofRun = NONE;
            for (int t = 0; t < MAX_TYPES; t++) {
                ofType[t] = NONE;
            }
            for (int s = 0; s < MAX_SETS; s++) {
                ofSet[s] = NONE;
            }
        }
    }
}
