import java.io.IOException;
import java.nio.file.Files;
import java.nio.file.Path;
import java.util.ArrayList;
import java.util.LinkedHashMap;
import java.util.List;
import java.util.Map;
import java.util.TreeSet;

/**
 * Tests of the document's sentences: each one quotes words of the section that it is of, and tells calls whose
 * answers these words ask for. A section whose sentences are not all quoted makes the test fail.
 */
final class Sentences {
    // They tell the layout of an interface, or head a list.
    private static final List<String> SAY_NOTHING = List.of("Ahead of the calls ", "Rules.");

    private final Map<String, List<String>> sections = read();
    private final Map<String, TreeSet<String>> unquoted = new LinkedHashMap<>();
    private String section = "";
    private String prelude = "";

    /** The section of which the next quotes are, and the calls ahead of each one's own. */
    void of(String name, String ahead) {
        section = name;
        prelude = ahead;
        Checks.is("the document has the section " + name, sections.containsKey(name), true);
        if (!unquoted.containsKey(name)) {
            unquoted.put(name, tellingOnes(sections.getOrDefault(name, List.of())));
        }
    }

    /** Holds calls against the words that ask for their answers. */
    void hold(String quote, String script) {
        boolean isThere = false;
        for (String sentence : sections.getOrDefault(section, List.of())) {
            if (sentence.contains(quote)) {
                isThere = true;
                unquoted.get(section).remove(sentence);
            }
        }
        Checks.is(section + " says: " + quote, isThere, true);
        Script.run(section + ", \"" + quote + "\"", prelude + "\n" + script);
    }

    /** Ends the test; wrong is each sentence that was not quoted, of the sections that were opened. */
    void end(String test) {
        for (String name : unquoted.keySet()) {
            for (String sentence : unquoted.get(name)) {
                Checks.wrong(name + ": no test quotes \"" + sentence + "\"");
            }
        }
        Checks.end(test);
    }

    private static TreeSet<String> tellingOnes(List<String> sentences) {
        TreeSet<String> telling = new TreeSet<>();
        for (String sentence : sentences) {
            boolean saysNothing = false;
            for (String start : SAY_NOTHING) {
                saysNothing |= sentence.startsWith(start);
            }
            if (!saysNothing) {
                telling.add(sentence);
            }
        }
        return telling;
    }

    private static Map<String, List<String>> read() {
        Map<String, List<String>> sections = new LinkedHashMap<>();
        List<String> current = new ArrayList<>();
        for (String line : lines()) {
            String name = headOf(line);
            if (name != null) {
                current = sections.computeIfAbsent(name, k -> new ArrayList<>());
            } else if (!line.isBlank()) {
                current.addAll(List.of(line.split("(?<=\\.) ")));
            }
        }
        return sections;
    }

    /** The name of the section that a line heads, or null. */
    private static String headOf(String line) {
        if (line.startsWith("======== ")) {
            return line.substring(9);
        }
        return line.startsWith("## ") ? line.substring(3).split(":")[0] : null;
    }

    private static List<String> lines() {
        try {
            return Files.readAllLines(Path.of("../shared/DOC.md"));
        } catch (IOException none) {
            throw new AssertionError(none);
        }
    }
}
