import java.io.IOException;
import java.lang.reflect.Method;
import java.lang.reflect.Modifier;
import java.nio.file.Files;
import java.nio.file.Path;
import java.util.ArrayList;
import java.util.List;
import java.util.Map;
import java.util.Set;
import java.util.TreeMap;
import java.util.TreeSet;
import java.util.regex.Matcher;
import java.util.regex.Pattern;

/** What README.md says of the class: its example, and its rows of calls. */
final class ReadmeTest {
    private static final Path README = Path.of("README.md");
    private static final Path DOCUMENT = Path.of("../shared/DOC.md");
    private static final Path ITSELF = Path.of("src/test/java/ReadmeTest.java");
    private static final Pattern EXCEPTION = Pattern.compile("`(\\w+Exception)`");

    private ReadmeTest() {
    }

    public static void main(String[] args) throws IOException {
        example();
        exampleIsThere();
        calls();
        Checks.end("ReadmeTest");
    }

    /** The lines of the example, with looks at what it answers. */
    private static void example() {
        MasterTree tree = new MasterTree();
        int mail = tree.attribute(false, false);                       // 0: many values, which match if they are alike
        Checks.is("mail", mail, 0);
        int person = tree.objectClass(MasterTree.NONE, 1 << mail, 0);  // 0: it requires mail
        Checks.is("person", person, 0);
        tree.draft(mail, 7);
        int ann = tree.add(0, 0, person, 5);                           // 1: at the master 0, beneath the root, named 5
        Checks.is("ann", ann, 1);
        tree.draft(mail, 8);
        int bob = tree.add(1, 0, person, 5);                           // 2: the master 1 does not know of ann yet
        Checks.is("bob", bob, 2);
        int got = tree.exchange(0, 1, 250);                            // 1: the master 1 gets what the master 0 knows
        Checks.is("got", got, 1);
        int name = tree.nameOf(1, bob);                                // 102: it clashes with ann, whose ADD comes first
        Checks.is("name", name, 102);
        tree.equal(mail, 7);
        int count = tree.search(1, 0, 2);                              // 1: beneath the root, at the master 1
        Checks.is("count", count, 1);
        int first = tree.found(0);                                     // 101: 100 times the master, and ann
        Checks.is("first", first, 101);
        tree.rule(1, ann, 3, 0, 0, MasterTree.DENY);                   // the user 3 may not read ann
        boolean may = tree.may(1, 3, ann, 0);                          // false
        Checks.is("may", may, false);
        boolean isThrown = true;
        try {
            tree.delete(2, ann);
            isThrown = false;
        } catch (IndexOutOfBoundsException noSuchEntry) {
            tree.exchange(1, 2, 250);                                  // the master 2 had not got ann
        }
        Checks.is("the master 2 had not got ann", isThrown, true);
        int marks = tree.delete(2, ann);                               // 1: the master 2 keeps a mark of ann
        Checks.is("marks", marks, 1);
        int dropped = tree.sweep(2);                                   // 0: the others do not know of it yet
        Checks.is("dropped", dropped, 0);
    }

    private static void exampleIsThere() throws IOException {
        List<String> source = Files.readAllLines(ITSELF);
        int at = 0;
        int lines = 0;
        boolean inExample = false;
        for (String line : Files.readAllLines(README)) {
            boolean isFence = line.startsWith("```");
            if (inExample && !isFence) {
                int found = indexOf(source, line.trim(), at);
                Checks.is("the example's line \"" + line + "\" is run here", found >= 0, true);
                at = Math.max(at, found + 1);
                lines++;
            }
            inExample = isFence ? line.equals("```java") : inExample;
        }
        Checks.is("the page has an example", lines > 0, true);
    }

    private static int indexOf(List<String> source, String text, int from) {
        for (int i = from; i < source.size(); i++) {
            if (source.get(i).trim().equals(text)) {
                return i;
            }
        }
        return -1;
    }

    private static void calls() throws IOException {
        Map<String, String> rows = new TreeMap<>();
        for (String line : Files.readAllLines(README)) {
            if (line.startsWith("| `")) {
                String call = line.substring(3, line.indexOf('`', 3));
                Checks.is(call + " has one row", rows.put(call, line) == null, true);
            }
        }
        Set<String> due = faceOfDocument();
        Checks.is("the page has a row for each call of " + due + ", and no others; that it is so",
                rows.keySet().equals(due), true);
        for (Method method : MasterTree.class.getDeclaredMethods()) {
            if (Modifier.isPublic(method.getModifiers())) {
                row(method, due, rows);
            }
        }
    }

    private static void row(Method method, Set<String> due, Map<String, String> rows) {
        String call = method.getName();
        for (String told : due) {
            call = told.startsWith(method.getName() + "(") ? told : call;
        }
        List<String> thrown = new ArrayList<>();
        for (Class<?> type : method.getExceptionTypes()) {
            thrown.add(type.getSimpleName());
        }
        String[] cells = rows.getOrDefault(call, "").split("\\|");
        Checks.is(call + " has three cells", cells.length, 4);
        String last = cells[cells.length - 1];
        Checks.is(call + " throws " + thrown + ", as its row says", exceptionsIn(last).equals(thrown), true);
        boolean saysNothing = last.trim().equals("nothing");
        Checks.is(call + " has a row that says nothing, if it throws none", saysNothing, thrown.isEmpty());
    }

    private static List<String> exceptionsIn(String text) {
        List<String> exceptions = new ArrayList<>();
        Matcher matcher = EXCEPTION.matcher(text);
        while (matcher.find()) {
            exceptions.add(matcher.group(1));
        }
        return exceptions;
    }

    /** The calls of the document's face, without types: found(index). */
    private static Set<String> faceOfDocument() throws IOException {
        Set<String> face = new TreeSet<>();
        for (String line : Files.readAllLines(DOCUMENT)) {
            String text = line.trim();
            boolean isCall = text.startsWith("public ") && text.contains("(") && !text.contains("MasterTree(");
            if (isCall) {
                String call = text.substring(text.indexOf(' ', 7) + 1, text.indexOf(')') + 1);
                face.add(call.replaceAll("(int|boolean) ", ""));
            }
        }
        Checks.is("the document has 40 calls", face.size(), 40);
        return face;
    }
}
