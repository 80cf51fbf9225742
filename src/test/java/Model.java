import java.util.ArrayList;
import java.util.Collections;
import java.util.HashMap;
import java.util.HashSet;
import java.util.List;
import java.util.Map;
import java.util.Set;
import java.util.TreeMap;
import java.util.TreeSet;

/**
 * The document once more, written as slowly and plainly as can be: each answer is worked out from the set of
 * known changes alone. RunsTest holds MasterTree against it.
 */
final class Model {
    static final int NONE = -1;
    static final int LOST = -2;

    static final class Attribute {
        boolean single;
        boolean tens;
    }

    static final class Klass {
        int parent;
        Set<Integer> required = new HashSet<>();
        Set<Integer> allowed = new HashSet<>();
    }

    static final class Change implements Comparable<Change> {
        int stamp;
        int master;
        int number;
        String kind;
        int entry;
        int[] told;
        List<int[]> values = new ArrayList<>();

        @Override
        public int compareTo(Change other) {
            return stamp != other.stamp ? Integer.compare(stamp, other.stamp) : Integer.compare(master, other.master);
        }
    }

    static final class Entry {
        int klass = NONE;
        int parent = NONE;
        int name = 0;
        int link = NONE;
        int bornAs = -1;
        Map<Integer, TreeSet<Integer>> values = new HashMap<>();
        Map<String, Integer> rules = new TreeMap<>();

        TreeSet<Integer> of(int attribute) {
            return values.computeIfAbsent(attribute, k -> new TreeSet<>());
        }
    }

    /** What a master shows. */
    final class State {
        Map<Integer, Entry> all = new TreeMap<>();
        Set<Integer> dead = new HashSet<>();

        State(Set<Change> known) {
            all.put(0, new Entry());
            int order = 0;
            for (Change change : new TreeSet<>(known)) {
                order++;
                make(change, order);
            }
        }

        private void make(Change c, int order) {
            if (c.kind.equals("ADD")) {
                Entry born = new Entry();
                born.parent = c.told[0];
                born.klass = c.told[1];
                born.name = c.told[2];
                born.bornAs = order;
                all.put(c.entry, born);
                for (int[] pair : c.values) {
                    come(born, pair[0], pair[1]);
                }
                return;
            }
            Entry e = all.get(c.entry);
            switch (c.kind) {
                case "VALUE":
                    come(e, c.told[0], c.told[1]);
                    break;
                case "REMOVE":
                    e.of(c.told[0]).removeIf(v -> match(c.told[0], v, c.told[1]));
                    break;
                case "REPLACE":
                    e.of(c.told[0]).clear();
                    e.of(c.told[0]).add(c.told[1]);
                    break;
                case "NAME":
                    e.name = c.told[0];
                    break;
                case "LINK":
                    e.link = c.told[0];
                    break;
                case "RULE":
                    String key = c.told[0] + " " + c.told[1] + " " + c.told[2];
                    if (c.told[3] == 0) {
                        e.rules.remove(key);
                    } else {
                        e.rules.put(key, c.told[3]);
                    }
                    break;
                case "MOVE":
                    if (!upwards(c.told[0]).contains(c.entry)) {
                        e.parent = c.told[0];
                    }
                    break;
                case "DELETE":
                    dead.add(c.entry);
                    break;
                default:
                    throw new AssertionError(c.kind);
            }
        }

        private void come(Entry e, int attribute, int value) {
            if (attributes.get(attribute).single) {
                e.of(attribute).clear();
            } else {
                e.of(attribute).removeIf(v -> match(attribute, v, value));
            }
            e.of(attribute).add(value);
        }

        /** The entry itself, its parent, and so on, deleted ones too. */
        List<Integer> upwards(int entry) {
            List<Integer> way = new ArrayList<>();
            for (int at = entry; at != NONE; at = all.get(at).parent) {
                way.add(at);
            }
            return way;
        }

        boolean live(int entry) {
            return all.containsKey(entry) && !dead.contains(entry);
        }

        List<Integer> living() {
            List<Integer> living = new ArrayList<>();
            for (int entry : all.keySet()) {
                if (live(entry)) {
                    living.add(entry);
                }
            }
            return living;
        }

        int place(int entry) {
            int parent = all.get(entry).parent;
            return parent == NONE ? NONE : dead.contains(parent) ? LOST : parent;
        }

        int shown(int entry) {
            int first = entry;
            for (int other : siblings(entry)) {
                boolean same = all.get(other).name == all.get(entry).name;
                if (same && all.get(other).bornAs < all.get(first).bornAs) {
                    first = other;
                }
            }
            return first == entry ? all.get(entry).name : 100 + entry;
        }

        List<Integer> siblings(int entry) {
            List<Integer> list = entry == 0 ? new ArrayList<>() : childrenOf(place(entry));
            list.remove(Integer.valueOf(entry));
            return list;
        }

        /** By rising shown names. */
        List<Integer> childrenOf(int place) {
            List<Integer> list = new ArrayList<>();
            for (int entry : living()) {
                if (entry != 0 && place(entry) == place) {
                    list.add(entry);
                }
            }
            return list;
        }

        List<Integer> ranked(int place) {
            List<Integer> list = childrenOf(place);
            list.sort((a, b) -> Integer.compare(shown(a), shown(b)));
            return list;
        }

        boolean taken(int place, int name, int but) {
            for (int entry : childrenOf(place)) {
                if (entry != but && shown(entry) == name) {
                    return true;
                }
            }
            return false;
        }

        int matching(int entry, int attribute, int value) {
            int count = 0;
            for (int v : all.get(entry).of(attribute)) {
                count += match(attribute, v, value) ? 1 : 0;
            }
            return count;
        }

        boolean may(int user, int entry, int right) {
            if (user == 0) {
                return true;
            }
            int distance = 0;
            for (int at = entry; at >= 0; at = place(at)) {
                int says = decision(at, distance, user, right);
                if (says != 0) {
                    return says == 1;
                }
                distance++;
            }
            return right == 0;
        }

        private int decision(int at, int distance, int user, int right) {
            Set<Integer> own = new HashSet<>();
            Set<Integer> group = new HashSet<>();
            Set<Integer> every = new HashSet<>();
            for (Map.Entry<String, Integer> rule : all.get(at).rules.entrySet()) {
                String[] parts = rule.getKey().split(" ");
                int subject = Integer.parseInt(parts[0]);
                int scope = Integer.parseInt(parts[1]);
                boolean reaches = scope == 2 || scope == 0 && distance == 0 || scope == 1 && distance == 1;
                if (!reaches || Integer.parseInt(parts[2]) != right) {
                    continue;
                }
                if (subject == -1) {
                    every.add(rule.getValue());
                } else if (subject == user) {
                    own.add(rule.getValue());
                } else if (subject >= 100 && live(subject - 100) && attributes.size() > 0
                        && matching(subject - 100, 0, user) > 0) {
                    group.add(rule.getValue());
                }
            }
            Set<Integer> first = !own.isEmpty() ? own : !group.isEmpty() ? group : every;
            return first.isEmpty() ? 0 : first.contains(2) ? 2 : 1;
        }

        String text() {
            StringBuilder text = new StringBuilder();
            for (int entry : living()) {
                Entry e = all.get(entry);
                text.append(entry).append(' ').append(place(entry)).append(' ').append(shown(entry)).append(' ');
                text.append(e.klass).append(' ').append(e.link).append(' ').append(e.rules);
                for (int attribute = 0; attribute < attributes.size(); attribute++) {
                    text.append(e.of(attribute));
                }
                text.append('\n');
            }
            return text.toString();
        }
    }

    interface Filter {
        boolean applies(State state, int entry);
    }

    private final List<Attribute> attributes = new ArrayList<>();
    private final List<Klass> classes = new ArrayList<>();
    private final List<int[]> drafted = new ArrayList<>();
    private final List<Filter> filters = new ArrayList<>();
    private final int[] users = new int[4];
    private final List<Set<Change>> known = new ArrayList<>();
    private final int[][][] told = new int[4][4][4];
    private final List<Set<Integer>> swept = new ArrayList<>();
    private final List<Change> made = new ArrayList<>();
    private final List<Integer> found = new ArrayList<>();
    private int parts = 0;
    private int entries = 1;

    Model() {
        for (int master = 0; master < 4; master++) {
            known.add(new HashSet<>());
            swept.add(new HashSet<>());
        }
    }

    private boolean match(int attribute, int one, int other) {
        return attributes.get(attribute).tens ? one / 10 == other / 10 : one == other;
    }

    private Set<Integer> required(int klass) {
        Set<Integer> set = new HashSet<>();
        for (int at = klass; at != NONE; at = classes.get(at).parent) {
            set.addAll(classes.get(at).required);
        }
        return set;
    }

    private Set<Integer> allowed(int klass) {
        Set<Integer> set = required(klass);
        for (int at = klass; at != NONE; at = classes.get(at).parent) {
            set.addAll(classes.get(at).allowed);
        }
        return set;
    }

    private State at(int master) {
        return new State(known.get(master));
    }

    private static void index(boolean good) {
        if (!good) {
            throw new IndexOutOfBoundsException();
        }
    }

    private static void argument(boolean good) {
        if (!good) {
            throw new IllegalArgumentException();
        }
    }

    private static void state(boolean good) {
        if (!good) {
            throw new IllegalStateException();
        }
    }

    private static boolean in(int number, int from, int to) {
        return from <= number && number <= to;
    }

    private State need(int master, int entry) {
        index(in(master, 0, 3));
        State state = at(master);
        index(state.live(entry));
        return state;
    }

    private void make(int master, String kind, int entry, int... args) {
        Change change = new Change();
        for (Change other : known.get(master)) {
            change.stamp = Math.max(change.stamp, other.stamp);
            change.number += other.master == master ? 1 : 0;
        }
        change.stamp++;
        change.master = master;
        change.kind = kind;
        change.entry = entry;
        change.told = args;
        if (kind.equals("ADD")) {
            change.values.addAll(drafted);
        }
        made.add(change);
        known.get(master).add(change);
        told[master][master][master]++;
    }

    // What RunsTest asks besides, to choose its calls.

    int filterCount() {
        return filters.size();
    }

    boolean isRequired(int klass, int attribute) {
        return in(klass, 0, classes.size() - 1) && required(klass).contains(attribute);
    }

    int anyValue(int master, int entry, int attribute, int index) {
        try {
            return valueAt(master, entry, attribute, index);
        } catch (IndexOutOfBoundsException none) {
            return NONE;
        }
    }

    public int attribute(boolean isSingle, boolean isByTens) {
        state(attributes.size() < 10);
        Attribute attribute = new Attribute();
        attribute.single = isSingle;
        attribute.tens = isByTens;
        attributes.add(attribute);
        return attributes.size() - 1;
    }

    public int objectClass(int parent, int required, int allowed) {
        index(in(parent, -1, classes.size() - 1));
        Klass klass = new Klass();
        for (int bit = 0; bit < 32; bit++) {
            if ((required >>> bit & 1) == 1) {
                klass.required.add(bit);
            }
            if ((allowed >>> bit & 1) == 1) {
                klass.allowed.add(bit);
            }
        }
        for (int bit = attributes.size(); bit < 32; bit++) {
            index(!klass.required.contains(bit) && !klass.allowed.contains(bit));
        }
        state(classes.size() < 8);
        klass.parent = parent;
        classes.add(klass);
        return classes.size() - 1;
    }

    public int serve(int master, int user) {
        index(in(master, 0, 3) && in(user, 0, 5));
        int before = users[master];
        users[master] = user;
        return before;
    }

    public int draft(int attribute, int value) {
        index(in(attribute, 0, attributes.size() - 1));
        argument(in(value, 0, 999));
        state(drafted.size() < 12);
        drafted.add(new int[] {attribute, value});
        return drafted.size();
    }

    public int undraft() {
        int count = drafted.size();
        drafted.clear();
        return count;
    }

    public int add(int master, int parent, int klass, int name) {
        State s = need(master, parent);
        index(in(klass, 0, classes.size() - 1));
        argument(in(name, 0, 99));
        state(s.may(users[master], parent, 1));
        state(!s.taken(parent, name, NONE));
        Map<Integer, List<Integer>> values = new HashMap<>();
        for (int[] pair : drafted) {
            state(allowed(klass).contains(pair[0]));
            List<Integer> sofar = values.computeIfAbsent(pair[0], k -> new ArrayList<>());
            state(sofar.isEmpty() || !attributes.get(pair[0]).single);
            for (int other : sofar) {
                state(!match(pair[0], other, pair[1]));
            }
            sofar.add(pair[1]);
        }
        state(values.keySet().containsAll(required(klass)));
        state(entries < 48 && made.size() < 250);
        make(master, "ADD", entries, parent, klass, name);
        drafted.clear();
        return entries++;
    }

    private State needValue(int master, int entry, int attribute, int value) {
        State s = need(master, entry);
        index(entry != 0 && in(attribute, 0, attributes.size() - 1));
        argument(in(value, 0, 999));
        state(s.may(users[master], entry, 1) && made.size() < 250);
        return s;
    }

    public int addValue(int master, int entry, int attribute, int value) {
        State s = needValue(master, entry, attribute, value);
        Entry e = s.all.get(entry);
        state(allowed(e.klass).contains(attribute));
        state(s.matching(entry, attribute, value) == 0);
        state(!attributes.get(attribute).single || e.of(attribute).isEmpty());
        make(master, "VALUE", entry, attribute, value);
        return at(master).all.get(entry).of(attribute).size();
    }

    public int removeValue(int master, int entry, int attribute, int value) {
        State s = needValue(master, entry, attribute, value);
        Entry e = s.all.get(entry);
        state(s.matching(entry, attribute, value) > 0);
        state(!required(e.klass).contains(attribute) || e.of(attribute).size() > s.matching(entry, attribute, value));
        make(master, "REMOVE", entry, attribute, value);
        return at(master).all.get(entry).of(attribute).size();
    }

    public int replace(int master, int entry, int attribute, int value) {
        State s = needValue(master, entry, attribute, value);
        state(allowed(s.all.get(entry).klass).contains(attribute));
        make(master, "REPLACE", entry, attribute, value);
        return s.all.get(entry).of(attribute).size();
    }

    public int rename(int master, int entry, int name) {
        State s = need(master, entry);
        index(entry != 0);
        argument(in(name, 0, 99));
        state(s.may(users[master], entry, 1) && made.size() < 250);
        state(!s.taken(s.place(entry), name, entry));
        make(master, "NAME", entry, name);
        return s.shown(entry);
    }

    public int move(int master, int entry, int parent) {
        State s = need(master, entry);
        index(entry != 0 && s.live(parent));
        state(s.may(users[master], entry, 1) && s.may(users[master], parent, 1) && made.size() < 250);
        state(!s.upwards(parent).contains(entry));
        state(!s.taken(parent, s.all.get(entry).name, entry));
        make(master, "MOVE", entry, parent);
        return s.place(entry);
    }

    public int delete(int master, int entry) {
        State s = need(master, entry);
        index(entry != 0);
        state(s.may(users[master], entry, 1) && made.size() < 250);
        state(s.childrenOf(entry).isEmpty());
        make(master, "DELETE", entry);
        return marks(master);
    }

    public int link(int master, int entry, int target) {
        State s = need(master, entry);
        index(entry != 0);
        index(target == NONE || in(target, 100, 103) || s.live(target));
        state(target != entry && s.may(users[master], entry, 1) && made.size() < 250);
        make(master, "LINK", entry, target);
        return s.all.get(entry).link;
    }

    public int rule(int master, int entry, int subject, int scope, int right, int says) {
        State s = need(master, entry);
        index(in(subject, -1, 5) || subject >= 100 && s.live(subject - 100));
        index(in(scope, 0, 2) && in(right, 0, 1));
        argument(in(says, 0, 2));
        state(s.may(users[master], entry, 1) && made.size() < 250);
        make(master, "RULE", entry, subject, scope, right, says);
        return s.all.get(entry).rules.getOrDefault(subject + " " + scope + " " + right, 0);
    }

    public int exchange(int from, int to, int most) {
        index(in(from, 0, 3) && in(to, 0, 3));
        argument(from != to && in(most, 0, 250));
        List<Change> wanted = new ArrayList<>(known.get(from));
        wanted.removeAll(known.get(to));
        Collections.sort(wanted);
        int got = Math.min(most, wanted.size());
        for (Change change : wanted.subList(0, got)) {
            known.get(to).add(change);
            told[to][to][change.master]++;
        }
        for (int who = 0; who < 4; who++) {
            for (int whose = 0; whose < 4; whose++) {
                int best = Math.max(told[from][who][whose], told[to][who][whose]);
                told[from][who][whose] = best;
                told[to][who][whose] = best;
            }
        }
        return got;
    }

    public int sweep(int master) {
        index(in(master, 0, 3));
        int count = 0;
        for (int entry : at(master).dead) {
            boolean known4 = true;
            for (int other = 0; other < 4; other++) {
                boolean one = false;
                for (Change change : known.get(master)) {
                    boolean isIts = change.kind.equals("DELETE") && change.entry == entry;
                    one |= isIts && told[master][other][change.master] > change.number;
                }
                known4 &= one;
            }
            if (known4 && swept.get(master).add(entry)) {
                count++;
            }
        }
        return count;
    }

    private int put(Filter filter) {
        state(filters.size() < 8 && parts < 15);
        filters.add(filter);
        parts++;
        return filters.size();
    }

    public int equal(int attribute, int value) {
        index(in(attribute, 0, attributes.size() - 1));
        argument(in(value, 0, 999));
        return put((s, e) -> s.matching(e, attribute, value) > 0);
    }

    public int atLeast(int attribute, int value) {
        index(in(attribute, 0, attributes.size() - 1));
        argument(in(value, 0, 999));
        int by = attributes.get(attribute).tens ? 10 : 1;
        return put((s, e) -> {
            for (int v : s.all.get(e).of(attribute)) {
                if (v / by >= value / by) {
                    return true;
                }
            }
            return false;
        });
    }

    public int has(int attribute) {
        index(in(attribute, 0, attributes.size() - 1));
        return put((s, e) -> !s.all.get(e).of(attribute).isEmpty());
    }

    public int ofClass(int klass) {
        index(in(klass, 0, classes.size() - 1));
        return put((s, e) -> {
            for (int at = s.all.get(e).klass; at != NONE; at = classes.get(at).parent) {
                if (at == klass) {
                    return true;
                }
            }
            return false;
        });
    }

    public int combine(boolean both) {
        state(filters.size() >= 2 && parts < 15);
        Filter last = filters.remove(filters.size() - 1);
        Filter one = filters.remove(filters.size() - 1);
        parts++;
        filters.add((s, e) -> both ? one.applies(s, e) && last.applies(s, e)
                : one.applies(s, e) || last.applies(s, e));
        return filters.size();
    }

    public int not() {
        state(filters.size() >= 1 && parts < 15);
        Filter last = filters.remove(filters.size() - 1);
        parts++;
        filters.add((s, e) -> !last.applies(s, e));
        return filters.size();
    }

    public int wipe() {
        int count = parts;
        parts = 0;
        filters.clear();
        return count;
    }

    private List<Integer> fitting(int master, int base, int scope) {
        State s = need(master, base);
        index(in(scope, 0, 2));
        state(filters.size() == 1);
        Set<Integer> in = new TreeSet<>();
        if (scope != 1) {
            in.add(base);
        }
        if (scope == 1) {
            in.addAll(s.childrenOf(base));
        }
        if (scope == 2) {
            List<Integer> queue = new ArrayList<>(s.childrenOf(base));
            while (!queue.isEmpty()) {
                int entry = queue.remove(0);
                in.add(entry);
                queue.addAll(s.childrenOf(entry));
            }
        }
        List<Integer> list = new ArrayList<>();
        for (int entry : in) {
            if (filters.get(0).applies(s, entry) && s.may(users[master], entry, 0)) {
                list.add(entry);
            }
        }
        return list;
    }

    public int search(int master, int base, int scope) {
        List<Integer> list = fitting(master, base, scope);
        found.clear();
        for (int entry : list) {
            found.add(100 * master + entry);
        }
        return list.size();
    }

    public int searchByWalk(int master, int base, int scope) {
        return fitting(master, base, scope).size();
    }

    public int follow(int master, int base, int scope) {
        need(master, base);
        index(in(scope, 0, 2));
        state(filters.size() == 1);
        List<State> states = new ArrayList<>();
        for (int m = 0; m < 4; m++) {
            states.add(at(m));
        }
        found.clear();
        come(states, new HashSet<>(), users[master], master, base, scope, true);
        return found.size();
    }

    /** Told as the document tells it: one comes, goes over links, looks, and goes on. */
    private void come(List<State> states, Set<Integer> met, int user, int master, int entry, int scope, boolean first) {
        State s = states.get(master);
        if (!s.live(entry) || !met.add(100 * master + entry)) {
            return;
        }
        int link = s.all.get(entry).link;
        if (link >= 100) {
            come(states, met, user, link - 100, entry, scope, first);
            return;
        }
        if (link != NONE) {
            come(states, met, user, master, link, scope, first);
            return;
        }
        if (scope != 1 || !first) {
            if (filters.get(0).applies(s, entry) && s.may(user, entry, 0)) {
                found.add(100 * master + entry);
            }
        }
        if (scope == 2 || scope == 1 && first) {
            for (int child : s.ranked(entry)) {
                come(states, met, user, master, child, scope, false);
            }
        }
    }

    public int found(int index) {
        index(in(index, 0, found.size() - 1));
        return found.get(index);
    }

    public int live(int master) {
        index(in(master, 0, 3));
        return at(master).living().size();
    }

    public int parentOf(int master, int entry) {
        return need(master, entry).place(entry);
    }

    public int parentAnew(int master, int entry) {
        return need(master, entry).place(entry);
    }

    public int nameOf(int master, int entry) {
        return need(master, entry).shown(entry);
    }

    public int valueAt(int master, int entry, int attribute, int index) {
        State s = need(master, entry);
        index(in(attribute, 0, attributes.size() - 1) && index >= 0);
        List<Integer> values = new ArrayList<>(s.all.get(entry).of(attribute));
        return index < values.size() ? values.get(index) : NONE;
    }

    public int valuesAnew(int master, int entry, int attribute) {
        State s = need(master, entry);
        index(in(attribute, 0, attributes.size() - 1));
        return s.all.get(entry).of(attribute).size();
    }

    public int linkOf(int master, int entry) {
        return need(master, entry).all.get(entry).link;
    }

    public boolean may(int master, int user, int entry, int right) {
        State s = need(master, entry);
        index(in(user, 0, 5) && in(right, 0, 1));
        return s.may(user, entry, right);
    }

    public int childAt(int master, int place, int index) {
        State s = need(master, place == LOST ? 0 : place);
        index(index >= 0);
        List<Integer> list = s.ranked(place);
        return index < list.size() ? list.get(index) : NONE;
    }

    public int conflicts(int master, int sort) {
        index(in(master, 0, 3) && in(sort, 0, 2));
        State s = at(master);
        int count = 0;
        for (int entry : s.living()) {
            boolean clashes = s.shown(entry) != s.all.get(entry).name;
            boolean orphan = s.place(entry) == LOST;
            boolean incomplete = false;
            for (int attribute : required(s.all.get(entry).klass)) {
                incomplete |= s.all.get(entry).of(attribute).isEmpty();
            }
            count += (sort == 0 ? clashes : sort == 1 ? orphan : incomplete) ? 1 : 0;
        }
        return count;
    }

    public int knows(int master, int of) {
        index(in(master, 0, 3) && in(of, 0, 3));
        int count = 0;
        for (Change change : known.get(master)) {
            count += change.master == of ? 1 : 0;
        }
        return count;
    }

    public int marks(int master) {
        index(in(master, 0, 3));
        Set<Integer> dead = at(master).dead;
        dead.removeAll(swept.get(master));
        return dead.size();
    }

    public boolean areAlike(int one, int other) {
        index(in(one, 0, 3) && in(other, 0, 3));
        return at(one).text().equals(at(other).text());
    }
}
