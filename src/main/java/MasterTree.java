import java.util.ArrayList;
import java.util.Arrays;

/**
 * A directory that four masters keep. Each operation that a master takes makes a change; a master's
 * tree is what the changes that it knows do, one after the other, in their order.
 */
public final class MasterTree {
    public static final int NONE = -1;
    public static final int LOST = -2;
    public static final int ALL = -1;
    public static final int NOTHING = 0, ALLOW = 1, DENY = 2;

    private static final int MASTERS = 4;
    private static final int USERS = 6;
    private static final int ATTRIBUTES = 10;
    private static final int CLASSES = 8;
    private static final int ENTRIES = 48;
    private static final int VALUES = 1000;
    private static final int NAMES = 100;
    private static final int CHANGES = 250;
    private static final int DRAFTED = 12;
    private static final int FILTERS = 8;
    private static final int PARTS = 15;
    private static final int SCOPES = 3;
    private static final int RIGHTS = 2;
    private static final int SORTS = 3;

    private static final int ROOT = 0;
    private static final int ITSELF = 0, CHILDREN = 1, BENEATH = 2;
    private static final int READ = 0, WRITE = 1;
    private static final int CLASHING = 0, ORPHANS = 1;
    // An attribute and a value are told together by a code below CODES.
    private static final int CODES = ATTRIBUTES * VALUES;
    // A master and an entry are told together by a spot, 100 times the master and the entry.
    private static final int SPOT = 100;
    private static final int SPOTS = MASTERS * ENTRIES;
    // Groups, referrals and clashing names are told by 100 and a number, together.
    private static final int HUNDRED = 100;

    private final Schema schema = new Schema();
    private final Drafted drafted = new Drafted(schema);
    private final Filter filter = new Filter(schema);
    private final Master[] masters = new Master[MASTERS];
    private final Finder finder = new Finder(masters, filter);
    private final ArrayList<Change> log = new ArrayList<Change>();
    private final Tree anew = new Tree(schema);
    private int entries = 1;

    public MasterTree() {
        for (int number = 0; number < MASTERS; number++) {
            masters[number] = new Master(number, new Tree(schema));
        }
    }

    // ---- schema

    public int attribute(boolean isSingle, boolean isByTens) throws IllegalStateException {
        if (schema.attributes >= ATTRIBUTES) {
            throw new IllegalStateException("there are 10 attributes");
        }
        return schema.newAttribute(isSingle, isByTens);
    }

    public int objectClass(int parent, int required, int allowed)
            throws IndexOutOfBoundsException, IllegalStateException {
        if (parent != NONE) {
            needClass(parent);
        }
        if (!schema.isSetOfAttributes(required) || !schema.isSetOfAttributes(allowed)) {
            throw new IndexOutOfBoundsException("no such attribute");
        }
        if (schema.classes >= CLASSES) {
            throw new IllegalStateException("there are 8 classes");
        }
        return schema.newClass(parent, required, allowed);
    }

    // ---- operations

    public int serve(int master, int user) throws IndexOutOfBoundsException {
        Master at = masterAt(master);
        needUser(user);
        int served = at.user;
        at.user = user;
        return served;
    }

    public int draft(int attribute, int value)
            throws IndexOutOfBoundsException, IllegalArgumentException, IllegalStateException {
        needAttribute(attribute);
        needValue(value);
        if (drafted.count >= DRAFTED) {
            throw new IllegalStateException("there are 12 drafted values");
        }
        return drafted.put(attribute * VALUES + value);
    }

    public int undraft() {
        int dropped = drafted.count;
        drafted.count = 0;
        return dropped;
    }

    public int add(int master, int parent, int klass, int name)
            throws IndexOutOfBoundsException, IllegalArgumentException, IllegalStateException {
        Master at = masterAt(master);
        needEntry(at, parent);
        needClass(klass);
        needName(name);
        needRoom();
        needWrite(at, parent);
        needFreeName(at, parent, name, NONE);
        need(entries < ENTRIES && drafted.fits(klass));
        Change change = new Change(Change.ADD, entries, parent, klass, name);
        change.codes = drafted.take();
        record(at, change);
        entries++;
        return change.entry;
    }

    public int addValue(int master, int entry, int attribute, int value)
            throws IndexOutOfBoundsException, IllegalArgumentException, IllegalStateException {
        Master at = masterAt(master);
        needChangeable(at, entry);
        needAttribute(attribute);
        needValue(value);
        needRoom();
        needWrite(at, entry);
        Tree tree = at.tree;
        need(schema.isAllowed(tree.classes[entry], attribute));
        need(tree.matching(entry, attribute, value) == 0);
        need(!schema.isSingle(attribute) || tree.valuesOf(entry, attribute) == 0);
        record(at, new Change(Change.VALUE, entry, attribute, value, NONE));
        return tree.valuesOf(entry, attribute);
    }

    public int removeValue(int master, int entry, int attribute, int value)
            throws IndexOutOfBoundsException, IllegalArgumentException, IllegalStateException {
        Master at = masterAt(master);
        needChangeable(at, entry);
        needAttribute(attribute);
        needValue(value);
        needRoom();
        needWrite(at, entry);
        Tree tree = at.tree;
        int matching = tree.matching(entry, attribute, value);
        need(matching > 0);
        need(!schema.isRequired(tree.classes[entry], attribute) || tree.valuesOf(entry, attribute) > matching);
        record(at, new Change(Change.REMOVE, entry, attribute, value, NONE));
        return tree.valuesOf(entry, attribute);
    }

    public int replace(int master, int entry, int attribute, int value)
            throws IndexOutOfBoundsException, IllegalArgumentException, IllegalStateException {
        Master at = masterAt(master);
        needChangeable(at, entry);
        needAttribute(attribute);
        needValue(value);
        needRoom();
        needWrite(at, entry);
        need(schema.isAllowed(at.tree.classes[entry], attribute));
        int had = at.tree.valuesOf(entry, attribute);
        record(at, new Change(Change.REPLACE, entry, attribute, value, NONE));
        return had;
    }

    public int rename(int master, int entry, int name)
            throws IndexOutOfBoundsException, IllegalArgumentException, IllegalStateException {
        Master at = masterAt(master);
        needChangeable(at, entry);
        needName(name);
        needRoom();
        needWrite(at, entry);
        needFreeName(at, at.tree.placeOf(entry), name, entry);
        int shown = at.tree.shownName(entry);
        record(at, new Change(Change.NAME, entry, name, NONE, NONE));
        return shown;
    }

    public int move(int master, int entry, int parent) throws IndexOutOfBoundsException, IllegalStateException {
        Master at = masterAt(master);
        needChangeable(at, entry);
        needEntry(at, parent);
        needRoom();
        needWrite(at, entry);
        needWrite(at, parent);
        need(!at.tree.comesTo(parent, entry));
        needFreeName(at, parent, at.tree.names[entry], entry);
        int place = at.tree.placeOf(entry);
        record(at, new Change(Change.MOVE, entry, parent, NONE, NONE));
        return place;
    }

    public int delete(int master, int entry) throws IndexOutOfBoundsException, IllegalStateException {
        Master at = masterAt(master);
        needChangeable(at, entry);
        needRoom();
        needWrite(at, entry);
        need(at.tree.childrenAt(entry) == 0);
        record(at, new Change(Change.DELETE, entry, NONE, NONE, NONE));
        return Long.bitCount(at.marked());
    }

    public int link(int master, int entry, int target) throws IndexOutOfBoundsException, IllegalStateException {
        Master at = masterAt(master);
        needChangeable(at, entry);
        if (target != NONE && (target < HUNDRED || target >= HUNDRED + MASTERS)) {
            needEntry(at, target);
        }
        needRoom();
        needWrite(at, entry);
        need(target != entry);
        int linked = at.tree.links[entry];
        record(at, new Change(Change.LINK, entry, target, NONE, NONE));
        return linked;
    }

    public int rule(int master, int entry, int subject, int scope, int right, int says)
            throws IndexOutOfBoundsException, IllegalArgumentException, IllegalStateException {
        Master at = masterAt(master);
        needEntry(at, entry);
        if (subject >= HUNDRED) {
            needEntry(at, subject - HUNDRED);
        } else if (subject != ALL) {
            needUser(subject);
        }
        needScope(scope);
        needRight(right);
        if (says < NOTHING || says > DENY) {
            throw new IllegalArgumentException("no such saying");
        }
        needRoom();
        needWrite(at, entry);
        int slot = Rules.slot(entry, scope, right);
        int said = at.tree.rules.saidOf(slot, subject);
        record(at, new Change(Change.RULE, entry, slot, subject, says));
        return said;
    }

    // ---- exchange

    public int exchange(int from, int to, int most) throws IndexOutOfBoundsException, IllegalArgumentException {
        Master giver = masterAt(from);
        Master getter = masterAt(to);
        if (from == to || most < 0 || most > CHANGES) {
            throw new IllegalArgumentException("both are the same, or most is out of range");
        }
        int got = 0;
        for (int i = 0; i < log.size() && got < most; i++) {
            Change change = log.get(i);
            if (giver.hasGot(change) && !getter.hasGot(change)) {
                getter.learn(change);
                got++;
            }
        }
        if (got > 0) {
            redo(getter.tree, getter);
        }
        giver.talkTo(getter);
        return got;
    }

    public int sweep(int master) throws IndexOutOfBoundsException {
        Master at = masterAt(master);
        long known = at.marked();
        for (int other = 0; other < MASTERS; other++) {
            known &= deletionsKnownBy(at, other);
        }
        at.dropped |= known;
        return Long.bitCount(known);
    }

    // ---- filters and searches

    public int equal(int attribute, int value)
            throws IndexOutOfBoundsException, IllegalArgumentException, IllegalStateException {
        needAttribute(attribute);
        needValue(value);
        needRoomForFilter();
        return filter.putRange(attribute, schema.lowest(attribute, value), schema.highest(attribute, value));
    }

    public int atLeast(int attribute, int value)
            throws IndexOutOfBoundsException, IllegalArgumentException, IllegalStateException {
        needAttribute(attribute);
        needValue(value);
        needRoomForFilter();
        return filter.putRange(attribute, schema.lowest(attribute, value), VALUES - 1);
    }

    public int has(int attribute) throws IndexOutOfBoundsException, IllegalStateException {
        needAttribute(attribute);
        needRoomForFilter();
        return filter.putRange(attribute, 0, VALUES - 1);
    }

    public int ofClass(int klass) throws IndexOutOfBoundsException, IllegalStateException {
        needClass(klass);
        needRoomForFilter();
        return filter.putClass(klass);
    }

    public int combine(boolean both) throws IllegalStateException {
        if (filter.filters < 2 || filter.parts >= PARTS) {
            throw new IllegalStateException("fewer than two filters, or 15 parts");
        }
        return filter.putCombined(both);
    }

    public int not() throws IllegalStateException {
        if (filter.filters < 1 || filter.parts >= PARTS) {
            throw new IllegalStateException("no filter, or 15 parts");
        }
        return filter.putNot();
    }

    public int wipe() {
        int parts = filter.parts;
        filter.clear();
        return parts;
    }

    public int search(int master, int base, int scope) throws IndexOutOfBoundsException, IllegalStateException {
        needSearch(master, base, scope);
        return finder.byIndex(master, base, scope);
    }

    public int searchByWalk(int master, int base, int scope)
            throws IndexOutOfBoundsException, IllegalStateException {
        needSearch(master, base, scope);
        return finder.byWalk(master, base, scope);
    }

    public int follow(int master, int base, int scope) throws IndexOutOfBoundsException, IllegalStateException {
        needSearch(master, base, scope);
        return finder.byLinks(master, base, scope);
    }

    public int found(int index) throws IndexOutOfBoundsException {
        if (index < 0 || index >= finder.count) {
            throw new IndexOutOfBoundsException("not found so many");
        }
        return finder.spots[index];
    }

    // ---- what is asked of entries

    public int live(int master) throws IndexOutOfBoundsException {
        return Long.bitCount(masterAt(master).tree.living());
    }

    public int parentOf(int master, int entry) throws IndexOutOfBoundsException {
        Master at = masterAt(master);
        needEntry(at, entry);
        return at.tree.placeOf(entry);
    }

    public int parentAnew(int master, int entry) throws IndexOutOfBoundsException {
        Master at = masterAt(master);
        needEntry(at, entry);
        redo(anew, at);
        return anew.placeOf(entry);
    }

    public int nameOf(int master, int entry) throws IndexOutOfBoundsException {
        Master at = masterAt(master);
        needEntry(at, entry);
        return at.tree.shownName(entry);
    }

    public int valueAt(int master, int entry, int attribute, int index) throws IndexOutOfBoundsException {
        Master at = masterAt(master);
        needEntry(at, entry);
        needAttribute(attribute);
        needIndex(index);
        return at.tree.valueNumbered(entry, attribute, index);
    }

    public int valuesAnew(int master, int entry, int attribute) throws IndexOutOfBoundsException {
        Master at = masterAt(master);
        needEntry(at, entry);
        needAttribute(attribute);
        redo(anew, at);
        return anew.valuesOf(entry, attribute);
    }

    public int linkOf(int master, int entry) throws IndexOutOfBoundsException {
        Master at = masterAt(master);
        needEntry(at, entry);
        return at.tree.links[entry];
    }

    public boolean may(int master, int user, int entry, int right) throws IndexOutOfBoundsException {
        Master at = masterAt(master);
        needUser(user);
        needEntry(at, entry);
        needRight(right);
        return at.tree.grants(user, entry, right);
    }

    public int childAt(int master, int place, int index) throws IndexOutOfBoundsException {
        Master at = masterAt(master);
        if (place != LOST) {
            needEntry(at, place);
        }
        needIndex(index);
        Numbers ranked = at.tree.rankedAt(place);
        return index < ranked.size ? ranked.at(index) % ENTRIES : NONE;
    }

    // ---- what is asked of masters

    public int conflicts(int master, int sort) throws IndexOutOfBoundsException {
        Tree tree = masterAt(master).tree;
        if (sort < 0 || sort >= SORTS) {
            throw new IndexOutOfBoundsException("no such sort");
        }
        int count = 0;
        for (int entry = 1; entry < ENTRIES; entry++) {
            if (tree.isLive(entry) && isInConflict(tree, entry, sort)) {
                count++;
            }
        }
        return count;
    }

    public int knows(int master, int of) throws IndexOutOfBoundsException {
        Master at = masterAt(master);
        return at.toldOf(master, masterAt(of).number);
    }

    public int marks(int master) throws IndexOutOfBoundsException {
        return Long.bitCount(masterAt(master).marked());
    }

    public boolean areAlike(int one, int other) throws IndexOutOfBoundsException {
        Tree first = masterAt(one).tree;
        Tree second = masterAt(other).tree;
        if (first.living() != second.living()) {
            return false;
        }
        for (int entry = 0; entry < ENTRIES; entry++) {
            if (first.isLive(entry) && !first.showsAs(second, entry)) {
                return false;
            }
        }
        return true;
    }

    // ---- what calls need

    private Master masterAt(int master) throws IndexOutOfBoundsException {
        if (master < 0 || master >= MASTERS) {
            throw new IndexOutOfBoundsException("no such master");
        }
        return masters[master];
    }

    private static void needUser(int user) throws IndexOutOfBoundsException {
        if (user < 0 || user >= USERS) {
            throw new IndexOutOfBoundsException("no such user");
        }
    }

    private static void needEntry(Master at, int entry) throws IndexOutOfBoundsException {
        if (!at.tree.isLive(entry)) {
            throw new IndexOutOfBoundsException("no such entry there");
        }
    }

    private static void needChangeable(Master at, int entry) throws IndexOutOfBoundsException {
        if (entry == ROOT) {
            throw new IndexOutOfBoundsException("the root cannot be changed");
        }
        needEntry(at, entry);
    }

    private void needAttribute(int attribute) throws IndexOutOfBoundsException {
        if (attribute < 0 || attribute >= schema.attributes) {
            throw new IndexOutOfBoundsException("no such attribute");
        }
    }

    private void needClass(int klass) throws IndexOutOfBoundsException {
        if (!schema.isClass(klass)) {
            throw new IndexOutOfBoundsException("no such class");
        }
    }

    private static void needScope(int scope) throws IndexOutOfBoundsException {
        if (scope < 0 || scope >= SCOPES) {
            throw new IndexOutOfBoundsException("no such scope");
        }
    }

    private static void needRight(int right) throws IndexOutOfBoundsException {
        if (right < 0 || right >= RIGHTS) {
            throw new IndexOutOfBoundsException("no such right");
        }
    }

    private static void needIndex(int index) throws IndexOutOfBoundsException {
        if (index < 0) {
            throw new IndexOutOfBoundsException("index is below 0");
        }
    }

    private static void needValue(int value) throws IllegalArgumentException {
        if (value < 0 || value >= VALUES) {
            throw new IllegalArgumentException("value is out of range");
        }
    }

    private static void needName(int name) throws IllegalArgumentException {
        if (name < 0 || name >= NAMES) {
            throw new IllegalArgumentException("name is out of range");
        }
    }

    private static void need(boolean isTaken) throws IllegalStateException {
        if (!isTaken) {
            throw new IllegalStateException("the operation is not taken");
        }
    }

    private void needRoom() throws IllegalStateException {
        if (log.size() >= CHANGES) {
            throw new IllegalStateException("there are 250 changes");
        }
    }

    private static void needWrite(Master at, int entry) throws IllegalStateException {
        if (!at.tree.grants(at.user, entry, WRITE)) {
            throw new IllegalStateException("the user may not write");
        }
    }

    private static void needFreeName(Master at, int place, int name, int but) throws IllegalStateException {
        if (at.tree.isShown(place, name, but)) {
            throw new IllegalStateException("a sibling is shown with the name");
        }
    }

    private void needRoomForFilter() throws IllegalStateException {
        if (filter.filters >= FILTERS || filter.parts >= PARTS) {
            throw new IllegalStateException("8 filters, or 15 parts");
        }
    }

    private void needSearch(int master, int base, int scope)
            throws IndexOutOfBoundsException, IllegalStateException {
        needEntry(masterAt(master), base);
        needScope(scope);
        if (filter.filters != 1) {
            throw new IllegalStateException("not just one filter");
        }
    }

    // ---- changes

    private void record(Master by, Change change) {
        by.sign(change);
        int place = log.size();
        while (place > 0 && log.get(place - 1).rank() > change.rank()) {
            place--;
        }
        log.add(place, change);
        // The stamp is greater than all that this master knows, so here the change comes last.
        by.tree.take(change);
    }

    private void redo(Tree tree, Master knowing) {
        tree.clear();
        for (int i = 0; i < log.size(); i++) {
            Change change = log.get(i);
            if (knowing.hasGot(change)) {
                tree.take(change);
            }
        }
    }

    private long deletionsKnownBy(Master at, int other) {
        long known = 0;
        for (int i = 0; i < log.size(); i++) {
            Change change = log.get(i);
            if (change.kind == Change.DELETE && at.hasGot(change) && at.isToldThatKnows(other, change)) {
                known |= 1L << change.entry;
            }
        }
        return known;
    }

    private static boolean isInConflict(Tree tree, int entry, int sort) {
        if (sort == CLASHING) {
            return tree.shownName(entry) >= HUNDRED;
        }
        if (sort == ORPHANS) {
            return tree.placeOf(entry) == LOST;
        }
        return tree.isIncomplete(entry);
    }

    /** The attributes and classes, which all masters know at once. */
    static final class Schema {
        int attributes;
        int classes;
        private int singles;
        private int byTens;
        private final int[] parents = new int[CLASSES];
        private final int[] required = new int[CLASSES];
        private final int[] allowed = new int[CLASSES];

        int newAttribute(boolean isSingle, boolean isByTens) {
            int bit = 1 << attributes;
            singles |= isSingle ? bit : 0;
            byTens |= isByTens ? bit : 0;
            return attributes++;
        }

        int newClass(int parent, int requires, int allows) {
            if (classes >= CLASSES) {
                return NONE;
            }
            parents[classes] = parent;
            required[classes] = requires | requiredBy(parent);
            allowed[classes] = requires | allows | allowedBy(parent);
            return classes++;
        }

        boolean isClass(int klass) {
            return klass >= 0 && klass < classes;
        }

        boolean isSetOfAttributes(int set) {
            return set >>> attributes == 0;
        }

        int requiredBy(int klass) {
            return isClass(klass) ? required[klass] : 0;
        }

        int allowedBy(int klass) {
            return isClass(klass) ? allowed[klass] : 0;
        }

        boolean isRequired(int klass, int attribute) {
            return (requiredBy(klass) >> attribute & 1) == 1;
        }

        boolean isAllowed(int klass, int attribute) {
            return (allowedBy(klass) >> attribute & 1) == 1;
        }

        boolean isSingle(int attribute) {
            return (singles >> attribute & 1) == 1;
        }

        boolean isOrBeneath(int klass, int of) {
            int at = klass;
            for (int up = 0; up < CLASSES && isClass(at); up++) {
                if (at == of) {
                    return true;
                }
                at = parents[at];
            }
            return false;
        }

        /** The least of the values that match a value. */
        int lowest(int attribute, int value) {
            return isByTens(attribute) ? value - value % 10 : value;
        }

        /** The greatest of the values that match a value. */
        int highest(int attribute, int value) {
            return isByTens(attribute) ? value - value % 10 + 9 : value;
        }

        private boolean isByTens(int attribute) {
            return (byTens >> attribute & 1) == 1;
        }
    }

    /** The values for the next entry that is added, as codes. */
    static final class Drafted {
        private final Schema schema;
        private final int[] codes = new int[DRAFTED];
        int count;

        Drafted(Schema schema) {
            this.schema = schema;
        }

        int put(int code) {
            if (count < codes.length) {
                codes[count] = code;
                count++;
            }
            return count;
        }

        int[] take() {
            int[] taken = Arrays.copyOf(codes, count);
            count = 0;
            return taken;
        }

        boolean fits(int klass) {
            int seen = 0;
            for (int i = 0; i < count; i++) {
                int attribute = codes[i] / VALUES;
                boolean isSeen = (seen >> attribute & 1) == 1;
                if (!schema.isAllowed(klass, attribute) || isSeen && schema.isSingle(attribute)) {
                    return false;
                }
                if (isMatchedBefore(i)) {
                    return false;
                }
                seen |= 1 << attribute;
            }
            return (schema.requiredBy(klass) & ~seen) == 0;
        }

        private boolean isMatchedBefore(int index) {
            int attribute = codes[index] / VALUES;
            int low = attribute * VALUES + schema.lowest(attribute, codes[index] % VALUES);
            int high = attribute * VALUES + schema.highest(attribute, codes[index] % VALUES);
            for (int i = 0; i < index; i++) {
                if (codes[i] >= low && codes[i] <= high) {
                    return true;
                }
            }
            return false;
        }
    }

    /** A change; what first, second and third tell depends on its kind. */
    static final class Change {
        static final int ADD = 0;       // parent, class, name; codes of values
        static final int VALUE = 1;     // attribute, value
        static final int REMOVE = 2;    // attribute, value
        static final int REPLACE = 3;   // attribute, value
        static final int NAME = 4;      // name
        static final int LINK = 5;      // link
        static final int RULE = 6;      // slot, subject, what it says
        static final int MOVE = 7;      // parent
        static final int DELETE = 8;

        final int kind;
        final int entry;
        final int first;
        final int second;
        final int third;
        int[] codes;
        int master;
        int number;
        int stamp;

        Change(int kind, int entry, int first, int second, int third) {
            this.kind = kind;
            this.entry = entry;
            this.first = first;
            this.second = second;
            this.third = third;
        }

        /** Changes are in order by this. */
        int rank() {
            return stamp * MASTERS + master;
        }
    }

    /** Numbers from 0 on, each one once, by rising. */
    static final class Numbers {
        private final int[] rows;
        int size;

        Numbers(int most) {
            rows = new int[Math.max(most, 0)];
        }

        void clear() {
            size = 0;
        }

        /** How many are less than a number: where it is, or would come. */
        int indexOf(int number) {
            int index = 0;
            // The jumps together go beyond any size that is ever made here.
            for (int jump = 512; jump > 0; jump /= 2) {
                if (index + jump <= size && rows[index + jump - 1] < number) {
                    index += jump;
                }
            }
            return index;
        }

        int countBetween(int low, int high) {
            return indexOf(high + 1) - indexOf(low);
        }

        int at(int index) {
            return index >= 0 && index < size ? rows[index] : NONE;
        }

        void put(int number) {
            int index = indexOf(number);
            if (size < rows.length && at(index) != number) {
                System.arraycopy(rows, index, rows, index + 1, size - index);
                rows[index] = number;
                size++;
            }
        }

        void dropAt(int index) {
            if (index >= 0 && index < size) {
                System.arraycopy(rows, index + 1, rows, index, size - index - 1);
                size--;
            }
        }
    }

    /** What rules say: for each entry, scope and right the sets of subjects that are allowed and denied. */
    static final class Rules {
        // In a set of subjects bit k is the group k, for k below 48; then come the users, then everybody.
        private static final int USER_BITS = ENTRIES;
        private static final int ALL_BIT = USER_BITS + USERS;

        private final long[] allows = new long[ENTRIES * SCOPES * RIGHTS];
        private final long[] denies = new long[ENTRIES * SCOPES * RIGHTS];

        static int slot(int entry, int scope, int right) {
            return (entry * SCOPES + scope) * RIGHTS + right;
        }

        void clear() {
            Arrays.fill(allows, 0L);
            Arrays.fill(denies, 0L);
        }

        int saidOf(int slot, int subject) {
            long bit = bitOf(subject);
            if ((denies[slot] & bit) != 0) {
                return DENY;
            }
            return (allows[slot] & bit) != 0 ? ALLOW : NOTHING;
        }

        void say(int slot, int subject, int says) {
            long bit = bitOf(subject);
            allows[slot] &= ~bit;
            denies[slot] &= ~bit;
            if (says == ALLOW) {
                allows[slot] |= bit;
            } else if (says == DENY) {
                denies[slot] |= bit;
            }
        }

        /** What an entry says with a scope and the scope 2 to a user who is in these groups. */
        int decide(int entry, int scope, int right, int user, long groups) {
            int near = slot(entry, scope, right);
            int far = slot(entry, BENEATH, right);
            long allowed = allows[near] | allows[far];
            long denied = denies[near] | denies[far];
            int says = decideFor(1L << USER_BITS + user, allowed, denied);
            if (says == NOTHING) {
                says = decideFor(groups, allowed, denied);
            }
            if (says == NOTHING) {
                says = decideFor(1L << ALL_BIT, allowed, denied);
            }
            return says;
        }

        boolean areSame(Rules other, int entry) {
            int end = slot(entry + 1, 0, 0);
            for (int slot = slot(entry, 0, 0); slot < end; slot++) {
                if (allows[slot] != other.allows[slot] || denies[slot] != other.denies[slot]) {
                    return false;
                }
            }
            return true;
        }

        private static int decideFor(long subjects, long allowed, long denied) {
            if ((denied & subjects) != 0) {
                return DENY;
            }
            return (allowed & subjects) != 0 ? ALLOW : NOTHING;
        }

        private static long bitOf(int subject) {
            if (subject == ALL) {
                return 1L << ALL_BIT;
            }
            return subject >= HUNDRED ? 1L << subject - HUNDRED : 1L << USER_BITS + subject;
        }
    }

    /** What a set of changes does, when they are taken in order. Sets of entries have bit k for the entry k. */
    static final class Tree {
        final int[] names = new int[ENTRIES];
        final int[] classes = new int[ENTRIES];
        final int[] links = new int[ENTRIES];
        final Rules rules = new Rules();
        private final Schema schema;
        private final int[] parents = new int[ENTRIES];
        private final int[] addRanks = new int[ENTRIES];
        private final Numbers codesByEntry = new Numbers(ENTRIES * DRAFTED + CHANGES);
        private final Numbers entriesByCode = new Numbers(ENTRIES * DRAFTED + CHANGES);
        private final Numbers ranked = new Numbers(ENTRIES);
        private long added;
        private long deleted;

        Tree(Schema schema) {
            this.schema = schema;
            clear();
        }

        void clear() {
            Arrays.fill(names, 0);
            Arrays.fill(classes, NONE);
            Arrays.fill(links, NONE);
            Arrays.fill(parents, NONE);
            rules.clear();
            codesByEntry.clear();
            entriesByCode.clear();
            added = 1L << ROOT;
            deleted = 0;
        }

        void take(Change change) {
            int entry = change.entry;
            switch (change.kind) {
                case Change.ADD:
                    takeAdd(change);
                    break;
                case Change.VALUE:
                    takeValue(entry, change.first, change.second);
                    break;
                case Change.REMOVE:
                    takeRemoval(entry, change.first, change.second);
                    break;
                case Change.REPLACE:
                    dropValues(entry, change.first, 0, VALUES - 1);
                    takeValue(entry, change.first, change.second);
                    break;
                case Change.NAME:
                    names[entry] = change.first;
                    break;
                case Change.LINK:
                    links[entry] = change.first;
                    break;
                case Change.RULE:
                    rules.say(change.first, change.second, change.third);
                    break;
                case Change.MOVE:
                    if (!comesTo(change.first, entry)) {
                        parents[entry] = change.first;
                    }
                    break;
                default:
                    deleted |= 1L << entry;
            }
        }

        private void takeAdd(Change change) {
            int entry = change.entry;
            added |= 1L << entry;
            addRanks[entry] = change.rank();
            parents[entry] = change.first;
            classes[entry] = change.second;
            names[entry] = change.third;
            if (change.codes != null) {
                for (int code : change.codes) {
                    takeValue(entry, code / VALUES, code % VALUES);
                }
            }
        }

        private void takeValue(int entry, int attribute, int value) {
            boolean isSingle = schema.isSingle(attribute);
            int lowest = isSingle ? 0 : schema.lowest(attribute, value);
            int highest = isSingle ? VALUES - 1 : schema.highest(attribute, value);
            dropValues(entry, attribute, lowest, highest);
            int code = attribute * VALUES + value;
            codesByEntry.put(entry * CODES + code);
            entriesByCode.put(code * ENTRIES + entry);
        }

        private void takeRemoval(int entry, int attribute, int value) {
            dropValues(entry, attribute, schema.lowest(attribute, value), schema.highest(attribute, value));
        }

        private void dropValues(int entry, int attribute, int lowest, int highest) {
            int low = entry * CODES + attribute * VALUES + lowest;
            int high = entry * CODES + attribute * VALUES + highest;
            int first = codesByEntry.indexOf(low);
            for (int index = codesByEntry.indexOf(high + 1) - 1; index >= first; index--) {
                int code = codesByEntry.at(index) % CODES;
                codesByEntry.dropAt(index);
                entriesByCode.dropAt(entriesByCode.indexOf(code * ENTRIES + entry));
            }
        }

        long living() {
            return added & ~deleted;
        }

        long deletedOnes() {
            return deleted;
        }

        boolean isLive(int entry) {
            return entry >= 0 && entry < ENTRIES && ((added & ~deleted) >> entry & 1) == 1;
        }

        /** Whether one comes from an entry to another one, or is there, over parents, deleted ones too. */
        boolean comesTo(int from, int to) {
            int at = from;
            for (int up = 0; up < ENTRIES && at >= 0 && at < ENTRIES; up++) {
                if (at == to) {
                    return true;
                }
                at = parents[at];
            }
            return false;
        }

        /** Where a live entry is shown. */
        int placeOf(int entry) {
            if (entry == ROOT) {
                return NONE;
            }
            return isLive(parents[entry]) ? parents[entry] : LOST;
        }

        boolean isAtOrBeneath(int entry, int place) {
            int at = entry;
            for (int up = 0; up < ENTRIES && at >= 0; up++) {
                if (at == place) {
                    return true;
                }
                at = placeOf(at);
            }
            return false;
        }

        int shownName(int entry) {
            int place = placeOf(entry);
            for (int other = 1; other < ENTRIES; other++) {
                boolean isFirst = names[other] == names[entry] && addRanks[other] < addRanks[entry];
                if (isFirst && isLive(other) && placeOf(other) == place) {
                    return HUNDRED + entry;
                }
            }
            return names[entry];
        }

        boolean isShown(int place, int name, int but) {
            for (int entry = 1; entry < ENTRIES; entry++) {
                boolean isThere = entry != but && isLive(entry) && placeOf(entry) == place;
                if (isThere && shownName(entry) == name) {
                    return true;
                }
            }
            return false;
        }

        /** The set of the entries that are shown at a place. */
        long childrenAt(int place) {
            long children = 0;
            for (int entry = 1; entry < ENTRIES; entry++) {
                if (isLive(entry) && placeOf(entry) == place) {
                    children |= 1L << entry;
                }
            }
            return children;
        }

        /** The entries that are shown at a place, by rising shown names; each one is a rest by 48. */
        Numbers rankedAt(int place) {
            long children = childrenAt(place);
            ranked.clear();
            for (int entry = 1; entry < ENTRIES; entry++) {
                if ((children >> entry & 1) == 1) {
                    ranked.put(shownName(entry) * ENTRIES + entry);
                }
            }
            return ranked;
        }

        int valuesOf(int entry, int attribute) {
            return valuesBetween(entry, attribute * VALUES, attribute * VALUES + VALUES - 1);
        }

        int matching(int entry, int attribute, int value) {
            int low = schema.lowest(attribute, value);
            int high = schema.highest(attribute, value);
            return valuesBetween(entry, attribute * VALUES + low, attribute * VALUES + high);
        }

        int valuesBetween(int entry, int lowCode, int highCode) {
            return codesByEntry.countBetween(entry * CODES + lowCode, entry * CODES + highCode);
        }

        int valueNumbered(int entry, int attribute, int index) {
            if (index >= valuesOf(entry, attribute)) {
                return NONE;
            }
            int first = codesByEntry.indexOf(entry * CODES + attribute * VALUES);
            return codesByEntry.at(first + index) % VALUES;
        }

        /** The set of the live entries that have a value between two codes. */
        long holdersBetween(int lowCode, int highCode) {
            long holders = 0;
            int end = entriesByCode.indexOf((highCode + 1) * ENTRIES);
            for (int i = entriesByCode.indexOf(lowCode * ENTRIES); i < end; i++) {
                holders |= 1L << entriesByCode.at(i) % ENTRIES;
            }
            return holders & living();
        }

        boolean isIncomplete(int entry) {
            int required = schema.requiredBy(classes[entry]);
            for (int attribute = 0; attribute < ATTRIBUTES; attribute++) {
                if ((required >> attribute & 1) == 1 && valuesOf(entry, attribute) == 0) {
                    return true;
                }
            }
            return false;
        }

        boolean grants(int user, int entry, int right) {
            if (user == 0) {
                return true;
            }
            long groups = holdersBetween(schema.lowest(0, user), schema.highest(0, user));
            int at = entry;
            for (int up = 0; up < ENTRIES && at >= 0; up++) {
                // The entry's own rules count with the scope 0, its parent's with 1, all others with 2 alone.
                int says = rules.decide(at, Math.min(up, BENEATH), right, user, groups);
                if (says != NOTHING) {
                    return says == ALLOW;
                }
                at = placeOf(at);
            }
            return right == READ;
        }

        boolean showsAs(Tree other, int entry) {
            boolean isSame = placeOf(entry) == other.placeOf(entry) && shownName(entry) == other.shownName(entry)
                    && classes[entry] == other.classes[entry] && links[entry] == other.links[entry];
            return isSame && rules.areSame(other.rules, entry) && hasValuesAs(other, entry);
        }

        private boolean hasValuesAs(Tree other, int entry) {
            int count = valuesBetween(entry, 0, CODES - 1);
            if (count != other.valuesBetween(entry, 0, CODES - 1)) {
                return false;
            }
            int here = codesByEntry.indexOf(entry * CODES);
            int there = other.codesByEntry.indexOf(entry * CODES);
            for (int i = 0; i < count; i++) {
                if (codesByEntry.at(here + i) != other.codesByEntry.at(there + i)) {
                    return false;
                }
            }
            return true;
        }
    }

    /** A master: whom it serves, what it knows, what it was told that others know, and what it shows. */
    static final class Master {
        final int number;
        final Tree tree;
        int user;
        long dropped;
        private int greatestStamp;
        // How many changes of each master each one knows, by what was told here; the own row is what is known.
        private final int[] told = new int[MASTERS * MASTERS];

        Master(int number, Tree tree) {
            this.number = number;
            this.tree = tree;
        }

        int toldOf(int master, int of) {
            return told[master * MASTERS + of];
        }

        boolean isToldThatKnows(int master, Change change) {
            return toldOf(master, change.master) > change.number;
        }

        boolean hasGot(Change change) {
            return isToldThatKnows(number, change);
        }

        void sign(Change change) {
            change.master = number;
            change.number = toldOf(number, number);
            change.stamp = greatestStamp + 1;
            learn(change);
        }

        void learn(Change change) {
            told[number * MASTERS + change.master] = change.number + 1;
            greatestStamp = Math.max(greatestStamp, change.stamp);
        }

        void talkTo(Master other) {
            for (int i = 0; i < told.length; i++) {
                int most = Math.max(told[i], other.told[i]);
                told[i] = most;
                other.told[i] = most;
            }
        }

        /** The set of the deleted entries of which it keeps marks. */
        long marked() {
            return tree.deletedOnes() & ~dropped;
        }
    }

    /** The draft of filters: their parts, each one behind those that it is made of. */
    static final class Filter {
        private static final int RANGE = 0, CLASS = 1, BOTH = 2, EITHER = 3, NOT = 4;

        private final Schema schema;
        private final int[] kinds = new int[PARTS];
        // Of a range of codes the least and the greatest one; of a class its number.
        private final int[] lows = new int[PARTS];
        private final int[] highs = new int[PARTS];
        private final long[] sets = new long[FILTERS];
        int parts;
        int filters;

        Filter(Schema schema) {
            this.schema = schema;
        }

        void clear() {
            parts = 0;
            filters = 0;
        }

        int putRange(int attribute, int lowest, int highest) {
            return put(RANGE, attribute * VALUES + lowest, attribute * VALUES + highest, 1);
        }

        int putClass(int klass) {
            return put(CLASS, klass, klass, 1);
        }

        int putCombined(boolean both) {
            return put(both ? BOTH : EITHER, 0, 0, -1);
        }

        int putNot() {
            return put(NOT, 0, 0, 0);
        }

        private int put(int kind, int low, int high, int more) {
            if (parts < PARTS) {
                kinds[parts] = kind;
                lows[parts] = low;
                highs[parts] = high;
                parts++;
                filters += more;
            }
            return filters;
        }

        /** Whether the one filter applies to an entry, by its own values. */
        boolean applies(Tree tree, int entry) {
            // The answers of the filters so far, the last one's in the bit 0.
            int answers = 0;
            for (int part = 0; part < parts; part++) {
                int last = answers & 1;
                switch (kinds[part]) {
                    case RANGE:
                        boolean has = tree.valuesBetween(entry, lows[part], highs[part]) > 0;
                        answers = answers << 1 | (has ? 1 : 0);
                        break;
                    case CLASS:
                        boolean isOf = schema.isOrBeneath(tree.classes[entry], lows[part]);
                        answers = answers << 1 | (isOf ? 1 : 0);
                        break;
                    case BOTH:
                        answers = answers >> 1 & (~1 | last);
                        break;
                    case EITHER:
                        answers = answers >> 1 | last;
                        break;
                    default:
                        answers ^= 1;
                }
            }
            return (answers & 1) == 1;
        }

        /** The set of the live entries to which the one filter applies, by the index of values. */
        long appliesTo(Tree tree) {
            int count = 0;
            for (int part = 0; part < parts; part++) {
                boolean isNew = kinds[part] == RANGE || kinds[part] == CLASS;
                if (isNew && count < FILTERS) {
                    sets[count] = setOf(tree, part);
                    count++;
                } else if (kinds[part] == NOT && count > 0) {
                    sets[count - 1] = tree.living() & ~sets[count - 1];
                } else if (count > 1) {
                    count--;
                    boolean both = kinds[part] == BOTH;
                    sets[count - 1] = both ? sets[count - 1] & sets[count] : sets[count - 1] | sets[count];
                }
            }
            return count > 0 ? sets[count - 1] : 0L;
        }

        private long setOf(Tree tree, int part) {
            if (kinds[part] == RANGE) {
                return tree.holdersBetween(lows[part], highs[part]);
            }
            long set = 0;
            for (int entry = 0; entry < ENTRIES; entry++) {
                if (tree.isLive(entry) && schema.isOrBeneath(tree.classes[entry], lows[part])) {
                    set |= 1L << entry;
                }
            }
            return set;
        }
    }

    /** Searches with the one filter of the draft, and what the last one has found. */
    static final class Finder {
        private final Master[] masters;
        private final Filter filter;
        final int[] spots = new int[SPOTS];
        int count;
        private final long[] met = new long[MASTERS];
        private final int[] waiting = new int[SPOTS];
        private int waitingCount;
        private int user;

        Finder(Master[] masters, Filter filter) {
            this.masters = masters;
            this.filter = filter;
        }

        int byIndex(int master, int base, int scope) {
            Tree tree = masters[master].tree;
            user = masters[master].user;
            count = 0;
            long set = filter.appliesTo(tree);
            for (int entry = 0; entry < ENTRIES; entry++) {
                boolean isFit = (set >> entry & 1) == 1 && isInScope(tree, entry, base, scope);
                if (isFit && tree.grants(user, entry, READ)) {
                    keep(master * SPOT + entry);
                }
            }
            return count;
        }

        private static boolean isInScope(Tree tree, int entry, int base, int scope) {
            if (scope == ITSELF) {
                return entry == base;
            }
            return scope == CHILDREN ? tree.placeOf(entry) == base : tree.isAtOrBeneath(entry, base);
        }

        int byWalk(int master, int base, int scope) {
            Tree tree = masters[master].tree;
            long ahead = scope == CHILDREN ? tree.childrenAt(base) : 1L << base;
            int fit = 0;
            for (int step = 0; step < ENTRIES && ahead != 0; step++) {
                int entry = Long.numberOfTrailingZeros(ahead);
                ahead &= ahead - 1;
                if (filter.applies(tree, entry) && tree.grants(masters[master].user, entry, READ)) {
                    fit++;
                }
                if (scope == BENEATH) {
                    ahead |= tree.childrenAt(entry);
                }
            }
            return fit;
        }

        int byLinks(int master, int base, int scope) {
            user = masters[master].user;
            count = 0;
            waitingCount = 0;
            Arrays.fill(met, 0L);
            int spot = arriveFrom(master * SPOT + base);
            if (spot != NONE && scope != CHILDREN) {
                lookAt(spot);
            }
            if (spot != NONE && scope != ITSELF) {
                awaitChildrenOf(spot);
            }
            for (int step = 0; step < SPOTS && waitingCount > 0; step++) {
                waitingCount--;
                spot = arriveFrom(waiting[waitingCount]);
                if (spot != NONE) {
                    lookAt(spot);
                    if (scope == BENEATH) {
                        awaitChildrenOf(spot);
                    }
                }
            }
            return count;
        }

        /** Comes to a spot and goes over links; the spot at which one arrives, or NONE. */
        private int arriveFrom(int spot) {
            int at = spot;
            for (int hop = 0; hop <= SPOTS; hop++) {
                int master = at / SPOT;
                int entry = at % SPOT;
                if (!masters[master].tree.isLive(entry) || (met[master] >> entry & 1) == 1) {
                    return NONE;
                }
                met[master] |= 1L << entry;
                int link = masters[master].tree.links[entry];
                if (link == NONE) {
                    return at;
                }
                at = link >= HUNDRED ? (link - HUNDRED) * SPOT + entry : master * SPOT + link;
            }
            return NONE;
        }

        private void lookAt(int spot) {
            Tree tree = masters[spot / SPOT].tree;
            int entry = spot % SPOT;
            if (filter.applies(tree, entry) && tree.grants(user, entry, READ)) {
                keep(spot);
            }
        }

        /** Lets the children wait, the last one lowest: the one that is put last goes first. */
        private void awaitChildrenOf(int spot) {
            Numbers ranked = masters[spot / SPOT].tree.rankedAt(spot % SPOT);
            for (int i = ranked.size - 1; i >= 0; i--) {
                if (waitingCount < waiting.length) {
                    waiting[waitingCount] = spot / SPOT * SPOT + ranked.at(i) % ENTRIES;
                    waitingCount++;
                }
            }
        }

        private void keep(int spot) {
            if (count < spots.length) {
                spots[count] = spot;
                count++;
            }
        }
    }
}
