import java.lang.reflect.InvocationTargetException;
import java.lang.reflect.Method;
import java.util.ArrayList;
import java.util.HashMap;
import java.util.List;
import java.util.Map;
import java.util.Random;

/** Long runs of calls, each answer held against the one of Model; always the same runs. */
final class RunsTest {
    private static final int CALLS = 512;

    // Each call's arguments by letters, and how often it comes: for "told" runs and for "asked" ones.
    private static final String[] CALLS_TOLD = {
        "attribute bb 1", "objectClass pqq 1", "serve mx 4", "draft av 20", "undraft - 1", "add mecn 45",
        "addValue meav 24", "removeValue meav 20", "replace meav 12", "rename men 16", "move mee 30",
        "delete me 14", "link met 22", "rule mesory 24", "exchange mmk 40", "sweep m 8"};
    private static final String[] CALLS_ASKED = {
        "equal av 5", "atLeast av 5", "has a 3", "ofClass c 3", "combine b 5", "not - 4", "wipe - 3",
        "search meo 12", "searchByWalk meo 8", "follow meo 22", "found i 16", "live m 3", "parentOf me 6",
        "parentAnew me 5", "nameOf me 10", "valueAt meai 10", "valuesAnew mea 6", "linkOf me 4", "may mxer 16",
        "childAt mPi 10", "conflicts mS 10", "knows mm 4", "marks m 5", "areAlike mm 8"};

    private final Random random;
    private final boolean isWild;
    private final int names;
    private int entries = 1;
    private final Map<String, int[]> outcomes;

    private RunsTest(long seed, Map<String, int[]> outcomes) {
        this.random = new Random(seed);
        this.isWild = seed % 4 == 0;
        this.names = seed % 3 == 0 ? 3 : 8;
        this.outcomes = outcomes;
    }

    public static void main(String[] args) throws Exception {
        int runs = args.length > 0 ? Integer.parseInt(args[0]) : 300;
        Map<String, int[]> outcomes = new HashMap<>();
        for (int seed = 1; seed <= runs; seed++) {
            new RunsTest(seed, outcomes).run(seed);
        }
        for (String told : allCalls()) {
            String name = told.split(" ")[0];
            int[] counts = outcomes.getOrDefault(name, new int[2]);
            if (args.length > 0) {
                System.out.println(name + ": " + counts[0] + " answered, " + counts[1] + " thrown");
            }
            Checks.is(name + " is answered often enough", counts[0] >= runs, true);
        }
        Checks.end("RunsTest");
    }

    private static List<String> allCalls() {
        List<String> all = new ArrayList<>(List.of(CALLS_TOLD));
        all.addAll(List.of(CALLS_ASKED));
        return all;
    }

    private void run(int seed) throws Exception {
        MasterTree tree = new MasterTree();
        Model model = new Model();
        List<String> calls = new ArrayList<>();
        if (seed % 10 != 0) {
            setUp(tree, model, calls, seed);
        }
        boolean isSame = true;
        while (isSame && calls.size() < CALLS - 12) {
            String[] parts = pick().split(" ");
            Object[] values = parts[1].equals("-") ? new Object[0] : values(parts[1]);
            prepare(tree, model, calls, parts[0], values, seed);
            isSame = compare(tree, model, calls, parts[0], values, seed);
        }
    }

    /** Calls ahead of a call that let it be answered more often. */
    private void prepare(MasterTree tree, Model model, List<String> calls, String name, Object[] values, int seed)
            throws Exception {
        boolean isSearch = name.startsWith("search") || name.equals("follow");
        if (isSearch && random.nextInt(10) < 7) {
            for (int tries = 0; tries < 8 && model.filterCount() > 1; tries++) {
                compare(tree, model, calls, "combine", values("b"), seed);
            }
            if (model.filterCount() != 1) {
                compare(tree, model, calls, "wipe", new Object[0], seed);
                String leaf = random.nextBoolean() ? "has a" : random.nextBoolean() ? "equal av" : "ofClass c";
                compare(tree, model, calls, leaf.split(" ")[0], values(leaf.split(" ")[1]), seed);
                if (random.nextBoolean()) {
                    compare(tree, model, calls, "not", new Object[0], seed);
                }
            }
        }
        if (name.equals("add") && random.nextInt(10) < 7) {
            compare(tree, model, calls, "undraft", new Object[0], seed);
            for (int attribute = 0; attribute < 3; attribute++) {
                if (model.isRequired((Integer) values[2], attribute) || random.nextInt(4) == 0) {
                    compare(tree, model, calls, "draft", new Object[] {attribute, value('v')}, seed);
                }
            }
        }
        if (name.equals("removeValue") && random.nextInt(10) < 7) {
            for (int tries = 0; tries < 8; tries++) {
                int entry = (Integer) value('e');
                int value = model.anyValue((Integer) values[0], entry, (Integer) values[2], tries % 2);
                values[1] = value >= 0 ? entry : values[1];
                values[3] = value >= 0 ? value : values[3];
            }
        }
        if (name.equals("areAlike") && random.nextInt(10) < 3) {
            compare(tree, model, calls, "exchange", new Object[] {values[0], values[1], 250}, seed);
            compare(tree, model, calls, "exchange", new Object[] {values[1], values[0], 250}, seed);
        }
    }

    private void setUp(MasterTree tree, Model model, List<String> calls, int seed) throws Exception {
        boolean tensFirst = seed % 5 == 0;
        Object[][] attributes = {{false, tensFirst}, {false, true}, {true, false}, {true, true}};
        for (Object[] attribute : attributes) {
            compare(tree, model, calls, "attribute", attribute, seed);
        }
        Object[][] classes = {{-1, 0, 3}, {0, 0, 12}, {1, 1, 0}, {-1, 4, 9}, {3, 2, 0}};
        for (Object[] klass : classes) {
            compare(tree, model, calls, "objectClass", klass, seed);
        }
        // Some entries at once, so that most runs have a tree to work on.
        for (int i = 0; i < 6; i++) {
            compare(tree, model, calls, "add", new Object[] {0, random.nextInt(entries), i % 2, i}, seed);
        }
        for (int to = 1; to < 4; to++) {
            compare(tree, model, calls, "exchange", new Object[] {0, to, 250}, seed);
        }
    }

    private boolean compare(MasterTree tree, Model model, List<String> calls, String name, Object[] values, int seed)
            throws Exception {
        StringBuilder text = new StringBuilder(name).append('(');
        for (Object value : values) {
            text.append(text.charAt(text.length() - 1) == '(' ? "" : ", ").append(value);
        }
        String call = text.append(')').toString();
        String got = outcome(tree, name, values);
        String due = outcome(model, name, values);
        calls.add(call + " = " + due);
        int[] counts = outcomes.computeIfAbsent(name, k -> new int[2]);
        counts[due.startsWith("throws.") ? 1 : 0]++;
        if (name.equals("add") && !due.startsWith("throws.")) {
            entries++;
        }
        Checks.is("run " + seed + ", call " + calls.size() + ": " + call + " answered " + got + ", due is " + due
                + "; that it is so", got.equals(due), true);
        return got.equals(due);
    }

    private static String outcome(Object target, String name, Object[] values) throws Exception {
        for (Method method : target.getClass().getDeclaredMethods()) {
            boolean isPublic = java.lang.reflect.Modifier.isPublic(method.getModifiers());
            if (isPublic && method.getName().equals(name)) {
                try {
                    return String.valueOf(method.invoke(target, values));
                } catch (InvocationTargetException thrown) {
                    return "throws." + thrown.getCause().getClass().getSimpleName();
                }
            }
        }
        return "no such call";
    }

    private String pick() {
        String[] from = random.nextInt(100) < 62 ? CALLS_TOLD : CALLS_ASKED;
        int sum = 0;
        for (String told : from) {
            sum += Integer.parseInt(told.split(" ")[2]);
        }
        int left = random.nextInt(sum);
        for (String told : from) {
            left -= Integer.parseInt(told.split(" ")[2]);
            if (left < 0) {
                return told;
            }
        }
        throw new AssertionError();
    }

    private Object[] values(String letters) {
        Object[] values = new Object[letters.length()];
        for (int i = 0; i < values.length; i++) {
            values[i] = value(letters.charAt(i));
        }
        return values;
    }

    private Object value(char letter) {
        if (letter != 'b' && isWild && random.nextInt(25) == 0) {
            int[] wild = {-1, -2, -3, 3, 4, 5, 6, 10, 48, 99, 100, 148, 251, 999, 1000,
                Integer.MAX_VALUE, Integer.MIN_VALUE};
            return wild[random.nextInt(wild.length)];
        }
        switch (letter) {
            case 'b': return random.nextBoolean();
            case 'm': return random.nextInt(4);
            case 'x': return random.nextInt(5) < 2 ? 0 : random.nextInt(6);
            case 'e': return random.nextInt(Math.min(entries, 4 + random.nextInt(45)));
            case 'a': return random.nextInt(4);
            case 'v': return random.nextInt(random.nextInt(3) == 0 ? 30 : 6);
            case 'c': return random.nextInt(3) > 0 ? random.nextInt(2) : random.nextInt(5);
            case 'n': return random.nextInt(names);
            case 'o': return random.nextInt(5) < 3 ? 2 : random.nextInt(3);
            case 'r': return random.nextInt(2);
            case 'y': return random.nextInt(3);
            case 'S': return random.nextInt(3);
            case 'i': return random.nextInt(random.nextBoolean() ? 3 : 8);
            case 'k': return random.nextInt(3) == 0 ? random.nextInt(6) : 250;
            case 'p': return random.nextInt(6) - 1;
            case 'q': return random.nextInt(16);
            case 'P': return random.nextInt(4) == 0 ? -2 : random.nextInt(entries);
            case 't': return target();
            case 's': return subject();
            default: throw new AssertionError();
        }
    }

    private int target() {
        int sort = random.nextInt(6);
        return sort == 0 ? -1 : sort < 3 ? 100 + random.nextInt(4) : random.nextInt(entries);
    }

    private int subject() {
        int sort = random.nextInt(3);
        return sort == 0 ? -1 : sort == 1 ? 1 + random.nextInt(5) : 100 + random.nextInt(entries);
    }
}
