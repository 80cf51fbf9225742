/** What scripts start with. */
final class Preludes {
    /**
     * Attributes: 0 exact, 1 by tens, 2 single, 3 single and by tens, 4 in no class.
     * Classes: 0 allows 0 to 3; 1, beneath it, requires 0; 2 has no attributes.
     */
    static final String SCHEMA = """
            attribute false false = 0
            attribute false true = 1
            attribute true false = 2
            attribute true true = 3
            attribute false false = 4
            objectClass NONE 0 15 = 0
            objectClass 0 1 0 = 1
            objectClass NONE 0 0 = 2
            """;

    /** At the master 0: 1 at the root, 2 at 1, 3 at 2, 4 at the root; all of the class 0, named as numbered. */
    static final String TREE = SCHEMA + """
            add 0 0 0 1 = 1
            add 0 1 0 2 = 2
            add 0 2 0 3 = 3
            add 0 0 0 4 = 4
            """;

    /** All masters know this tree. */
    static final String TOLD = TREE + """
            for 1 3: exchange 0 # 250 = 4
            """;

    /** All 10 attributes, exact, and all 8 classes, which allow all of them. */
    static final String FULL_SCHEMA = """
            for 0 9: attribute false false = #
            for 0 7: objectClass NONE 0 1023 = #
            """;

    /** All 48 entries, at the root, named as numbered, at all masters. */
    static final String FULL_TREE = FULL_SCHEMA + """
            for 1 47: add 0 0 0 # = #
            for 1 3: exchange 0 # 250 = 47
            """;

    /** TREE with 249 changes, so that there is room for one more. */
    static final String NEARLY_FULL_LOG = TREE + """
            addValue 0 1 0 5 = 1
            for 6 249: link 0 4 100
            """;

    static final String FULL_LOG = NEARLY_FULL_LOG + """
            link 0 4 101 = 100
            """;

    private Preludes() {
    }
}
