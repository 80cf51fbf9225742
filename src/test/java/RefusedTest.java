import java.util.ArrayList;
import java.util.HashMap;
import java.util.List;
import java.util.Map;

/**
 * Calls that throw: which exception is thrown where several are due, and that nothing is changed by them. Each one
 * is made on an object like another one, and whatever is asked of both then is answered alike.
 */
final class RefusedTest {
    /** An object is used for at most so many calls. */
    private static final int MOST = 512;

    // At the master 0: 1 (with 3, with 5) and 2 at the root, 4 deleted, 6 at LOST, 7 from the master 1, 8 its own;
    // 9 is at the master 1 alone. The master 2 serves a user who may not write; one value and one filter are drafted.
    private static final String ORDINARY = Preludes.SCHEMA + """
            each 5 6: draft 0 #
            draft 1 31
            draft 2 7
            add 0 0 0 1 = 1
            draft 0 8
            add 0 0 1 2 = 2
            add 0 1 0 3 = 3
            add 0 0 0 4 = 4
            add 0 3 0 7 = 5
            for 1 3: exchange 0 # 250 = 5
            delete 0 4 = 1
            add 1 4 0 5 = 6
            add 1 0 0 6 = 7
            exchange 1 0 250 = 2
            add 0 0 0 8 = 8
            add 1 0 0 8 = 9
            link 0 3 1 = NONE
            link 0 7 101 = NONE
            rule 0 1 3 2 0 DENY = NOTHING
            rule 0 2 101 0 1 ALLOW = NOTHING
            serve 2 3 = 0
            draft 0 5 = 1
            has 0 = 1
            search 0 0 2 = 2
            """;
    private static final String TWO_FILTERS = ORDINARY + "has 1 = 2\n";
    private static final String NO_FILTER = ORDINARY + "wipe = 1\n";
    private static final String EIGHT_FILTERS = ORDINARY + "each 2 3 4 5 6 7 8: has 1 = #\n";
    private static final String FIFTEEN_PARTS = ORDINARY + "for 1 13: not = 1\nhas 1 = 2\n";
    private static final String FULL_DRAFT = ORDINARY + "for 2 12: draft 0 # = #\n";
    private static final String FULL_SCHEMA = Preludes.FULL_SCHEMA + "add 0 0 0 1 = 1\nhas 9 = 1\n";
    private static final String FULL_TREE = Preludes.FULL_TREE + "draft 0 5 = 1\n";
    private static final String FULL_LOG = Preludes.FULL_LOG + "draft 0 5 = 1\nhas 0 = 1\nsearch 0 0 2 = 1\n";

    // What is asked, each group of an object of its own, as there are but 512 calls, and some of it changes things.
    private static final String[] PROBES = {
        """
            for 0 11: parentOf 0 #
            for 0 11: parentOf 1 #
            for 0 11: parentAnew 0 #
            for 0 11: parentAnew 1 #
            for 0 11: nameOf 0 #
            for 0 11: nameOf 1 #
            for 0 11: nameOf 2 #
            for 0 11: nameOf 3 #
            for 0 11: linkOf 0 #
            for 0 11: linkOf 1 #
            each 46 47 48: nameOf 0 #
            """,
        """
            for 0 9: valuesAnew 0 # 0
            for 0 9: valuesAnew 0 # 1
            for 0 9: valuesAnew 1 # 0
            for 0 9: valueAt 0 # 0 0
            for 0 9: valueAt 0 # 0 1
            for 0 9: valueAt 0 # 1 0
            for 0 9: valueAt 0 # 2 0
            for 0 9: valueAt 0 # 3 0
            for 0 9: valueAt 1 # 0 0
            for 0 9: valueAt 1 # 1 0
            for 0 9: valueAt 2 # 0 0
            for 0 9: valueAt 2 # 1 0
            """,
        """
            for 0 9: may 0 3 # 0
            for 0 9: may 0 3 # 1
            for 0 9: may 0 5 # 0
            for 0 9: may 0 5 # 1
            for 0 9: may 1 3 # 0
            for 0 9: may 1 3 # 1
            for 0 9: may 2 3 # 0
            for 0 9: may 2 3 # 1
            """,
        """
            for 0 3: live #
            for 0 3: marks #
            for 0 3: knows 0 #
            for 0 3: knows 1 #
            for 0 3: knows 2 #
            for 0 3: knows 3 #
            for 0 3: conflicts # 0
            for 0 3: conflicts # 1
            for 0 3: conflicts # 2
            for 0 3: areAlike 0 #
            for 1 3: areAlike 1 #
            for 0 5: childAt 0 0 #
            for 0 5: childAt 1 0 #
            for 0 5: childAt 2 0 #
            for 0 2: childAt 0 LOST #
            for 0 2: childAt 1 LOST #
            for 0 2: childAt 0 1 #
            """,
        """
            for 0 4: found #
            searchByWalk 0 0 2
            follow 0 0 2
            for 0 4: found #
            not
            combine true
            wipe
            undraft
            """,
        """
            for 0 3: serve # 0
            attribute true true
            objectClass NONE 0 0
            equal 5 0
            add 0 0 0 90
            for 8 11: valueAt 0 # 0 0
            undraft
            add 1 0 0 91
            add 2 0 0 92
            each 90 91 92 93: rename 0 1 #
            draft 0 5
            """,
        """
            for 0 3: serve # 0
            for 1 3: exchange # 0 250
            for 1 3: exchange 0 # 250
            each 0 1: rename # 1 #+60
            exchange 1 0 250
            nameOf 0 1
            each 2 3: rename # 1 #+70
            exchange 3 2 250
            nameOf 2 1
            exchange 2 0 250
            nameOf 0 1
            """,
        """
            for 0 3: sweep #
            exchange 0 2 250
            for 0 3: sweep #
            exchange 3 0 0
            sweep 0
            exchange 0 1 250
            exchange 0 3 250
            for 0 3: sweep #
            for 1 3: exchange # 0 0
            for 0 3: sweep #
            for 0 3: marks #
            """,
        """
            for 0 2: rule 0 1 3 # 0 NOTHING
            for 0 2: rule 0 1 3 # 1 NOTHING
            for 0 2: rule 0 1 ALL # 0 NOTHING
            for 0 2: rule 0 1 101 # 1 NOTHING
            for 0 2: rule 0 2 101 # 1 NOTHING
            for 0 2: rule 0 2 3 # 1 NOTHING
            for 0 2: rule 0 0 3 # 1 NOTHING
            """,
    };

    private static final Map<String, List<List<String>>> UNTOUCHED = new HashMap<>();

    private RefusedTest() {
    }

    public static void main(String[] args) {
        schemaAndDraft();
        add();
        addByDraft();
        values();
        names();
        moves();
        deletions();
        links();
        rules();
        exchanges();
        filters();
        searches();
        asked();
        askedChangesNothing();
        fullLog();
        Checks.end("RefusedTest");
    }

    private static void schemaAndDraft() {
        noSuch(ORDINARY, """
                each -2 3: objectClass # 0 0
                each 32 -1: objectClass NONE # 0
                each 32 -1: objectClass NONE 0 #
                each -1 4: serve # 1
                each -1 6: serve 0 #
                serve 4 6
                each -1 5: draft # 5
                each -1 5: draft # 1000
                """);
        outOfRange(ORDINARY, "each -1 1000: draft 0 #");
        notTaken(FULL_DRAFT, "each 5 50: draft 0 #");
        outOfRange(FULL_DRAFT, "each -1 1000: draft 0 #");
        noSuch(FULL_DRAFT, "each -1 1000: draft 5 #");
        notTaken(FULL_SCHEMA, "attribute true true\nobjectClass NONE 1 1\nobjectClass 7 0 0");
        noSuch(FULL_SCHEMA, "objectClass 8 0 0\nobjectClass NONE 1024 0\nobjectClass NONE 0 1024\nhas 10");
    }

    private static void add() {
        noSuch(ORDINARY, """
                each -1 4: add # 0 0 50
                each -1 LOST 4 9 10 48: add 0 # 0 50
                each -1 3: add 0 0 # 50
                each -1 4: add # 0 0 100
                each -1 4 9: add 0 # 0 100
                each -1 3: add 0 0 # 100
                add 0 0 3 1
                add 2 8 0 50
                """);
        outOfRange(ORDINARY, """
                each -1 100: add 0 0 0 #
                each -1 100: add 0 0 2 #
                each -1 100: add 2 0 0 #
                """);
        notTaken(ORDINARY, """
                each 1 2 6 8: add 0 0 0 #
                add 1 0 0 8
                add 0 0 2 50
                add 2 0 0 50
                """);
        notTaken(FULL_TREE, "add 0 0 0 50\nadd 3 1 0 1");
        outOfRange(FULL_TREE, "add 0 0 0 100");
        noSuch(FULL_TREE, "add 0 0 8 100\nadd 0 48 0 100\nadd 4 0 0 100");
    }

    private static void addByDraft() {
        notTaken(ORDINARY + "draft 0 5 = 2\n", "add 0 0 0 50");
        notTaken(ORDINARY + "draft 1 50 = 2\ndraft 1 59 = 3\n", "add 0 0 0 50");
        notTaken(ORDINARY + "draft 2 50 = 2\ndraft 2 51 = 3\n", "add 0 0 0 50");
        notTaken(ORDINARY + "draft 4 50 = 2\n", "add 0 0 0 50\nadd 0 0 1 50");
        notTaken(ORDINARY + "undraft = 1\ndraft 1 50 = 1\n", "add 0 0 1 50");
        outOfRange(ORDINARY + "draft 4 50 = 2\n", "add 0 0 0 100");
    }

    private static void values() {
        for (String call : List.of("addValue", "removeValue", "replace")) {
            noSuch(ORDINARY, """
                    each -1 4: CALL # 1 0 7
                    each -1 0 4 9 10 48: CALL 0 # 0 7
                    each -1 5: CALL 0 1 # 7
                    each -1 4: CALL # 1 0 1000
                    each 0 4: CALL 0 # 0 1000
                    each -1 5: CALL 0 1 # 1000
                    CALL 2 0 0 7
                    CALL 2 1 5 7
                    """.replace("CALL", call));
            outOfRange(ORDINARY, """
                    each -1 1000: CALL 0 1 0 #
                    each -1 1000: CALL 0 1 4 #
                    each -1 1000: CALL 2 1 0 #
                    """.replace("CALL", call));
            notTaken(ORDINARY, call + " 0 1 4 7\n" + call + " 2 1 0 5\n");
        }
        notTaken(ORDINARY, """
                each 5 6: addValue 0 1 0 #
                each 30 39: addValue 0 1 1 #
                each 7 8: addValue 0 1 2 #
                removeValue 0 1 0 7
                each 29 40: removeValue 0 1 1 #
                removeValue 0 3 0 5
                removeValue 0 2 0 8
                """);
    }

    private static void names() {
        noSuch(ORDINARY, """
                each -1 4: rename # 1 50
                each -1 0 4 9 10 48: rename 0 # 50
                each -1 4: rename # 1 100
                each 0 4: rename 0 # 100
                rename 2 0 50
                """);
        outOfRange(ORDINARY, "each -1 100: rename 0 1 #\nrename 2 1 100");
        notTaken(ORDINARY, "each 2 6 8: rename 0 1 #\nrename 2 1 50");
    }

    private static void moves() {
        noSuch(ORDINARY, """
                each -1 4: move # 1 2
                each -1 0 4 9 10 48: move 0 # 2
                each -1 LOST 4 9 10 48: move 0 1 #
                move 0 0 0
                move 0 4 4
                move 2 0 1
                """);
        notTaken(ORDINARY, """
                each 1 3 5: move 0 1 #
                move 0 3 3
                move 2 3 2
                """);
        notTaken(ORDINARY + "rename 0 3 2 = 3\n", "move 0 3 0\nmove 0 1 3");
    }

    private static void deletions() {
        noSuch(ORDINARY, """
                each -1 4: delete # 2
                each -1 0 4 9 10 48: delete 0 #
                delete 2 0
                """);
        notTaken(ORDINARY, "each 1 3: delete 0 #\ndelete 2 2\ndelete 2 1");
    }

    private static void links() {
        noSuch(ORDINARY, """
                each -1 4: link # 1 2
                each -1 0 4 9 10 48: link 0 # 2
                each -2 4 9 10 48 99 104 MIN MAX: link 0 1 #
                link 2 1 104
                link 0 0 0
                """);
        notTaken(ORDINARY, "each 1 3: link 0 # #\neach NONE 2 100: link 2 1 #");
    }

    private static void rules() {
        noSuch(ORDINARY, """
                each -1 4: rule # 1 3 0 0 DENY
                each -1 4 9 10 48: rule 0 # 3 0 0 DENY
                each -2 6 99 104 109 148: rule 0 1 # 0 0 DENY
                each -1 3: rule 0 1 3 # 0 DENY
                each -1 2: rule 0 1 3 0 # DENY
                rule 4 1 3 0 0 3
                rule 0 4 3 0 0 3
                rule 0 1 6 0 0 3
                rule 0 1 3 3 0 3
                rule 0 1 3 0 2 3
                rule 2 1 6 0 0 DENY
                rule 2 1 3 3 0 DENY
                rule 2 1 3 0 2 DENY
                """);
        outOfRange(ORDINARY, "each -1 3: rule 0 1 3 0 0 #\neach -1 3: rule 2 1 3 0 0 #");
        notTaken(ORDINARY, "rule 2 1 3 0 1 ALLOW\nrule 2 0 3 2 1 ALLOW");
    }

    private static void exchanges() {
        noSuch(ORDINARY, """
                each -1 4: exchange # 0 250
                each -1 4: exchange 0 # 250
                each -1 4: exchange # # 250
                each -1 251: exchange 4 0 #
                each -1 251: exchange 0 4 #
                each -1 4: sweep #
                """);
        outOfRange(ORDINARY, """
                for 0 3: exchange # # 250
                each -1 251 MIN MAX: exchange 0 2 #
                each -1 251: exchange 0 0 #
                """);
    }

    private static void filters() {
        for (String scene : List.of(ORDINARY, EIGHT_FILTERS, FIFTEEN_PARTS)) {
            noSuch(scene, """
                    each -1 5: equal # 5
                    each -1 5: equal # 1000
                    each -1 5: atLeast # 5
                    each -1 5: atLeast # 1000
                    each -1 5: has #
                    each -1 3: ofClass #
                    """);
            outOfRange(scene, "each -1 1000: equal 0 #\neach -1 1000: atLeast 0 #");
        }
        String four = "equal 0 5\natLeast 0 5\nhas 0\nofClass 0\n";
        notTaken(EIGHT_FILTERS, four);
        notTaken(FIFTEEN_PARTS, four + "each true false: combine #\nnot");
        notTaken(ORDINARY, "each true false: combine #");
        notTaken(NO_FILTER, "each true false: combine #\nnot");
    }

    private static void searches() {
        for (String call : List.of("search", "searchByWalk", "follow")) {
            for (String scene : List.of(ORDINARY, TWO_FILTERS, NO_FILTER)) {
                noSuch(scene, """
                        each -1 4: CALL # 0 2
                        each -1 LOST 4 9 10 48: CALL 0 # 2
                        each -1 3: CALL 0 0 #
                        """.replace("CALL", call));
            }
            for (String scene : List.of(TWO_FILTERS, NO_FILTER, EIGHT_FILTERS, FIFTEEN_PARTS)) {
                notTaken(scene, "for 0 2: " + call + " 0 0 #");
            }
        }
    }

    private static void asked() {
        noSuch(ORDINARY, """
                each -1 2 MAX: found #
                each -1 4: live #
                each -1 4: marks #
                each -1 4 9: parentOf 0 #
                each -1 4 9: parentAnew 0 #
                each -1 4 9: nameOf 0 #
                each -1 4 9: linkOf 0 #
                each -1 4 9: valueAt 0 # 0 0
                each -1 5: valueAt 0 1 # 0
                valueAt 0 1 0 -1
                each -1 4 9: valuesAnew 0 # 0
                each -1 5: valuesAnew 0 1 #
                each -1 6: may 0 # 1 0
                each -1 2: may 0 1 1 #
                each -1 4 9: may 0 1 # 0
                each -1 4 9: childAt 0 # 0
                childAt 0 0 -1
                each -1 3: conflicts 0 #
                each -1 4: knows 0 #
                each -1 4: areAlike 0 #
                """);
    }

    /** Calls that only ask change nothing either, but for what the last search has found. */
    private static void askedChangesNothing() {
        changesNothing(ORDINARY, """
                live 0
                for 0 3: parentAnew # 1
                for 0 3: valuesAnew # 1 0
                nameOf 1 9
                parentOf 0 6
                valueAt 0 1 0 0
                linkOf 0 3
                may 0 3 1 1
                childAt 0 0 0
                childAt 0 LOST 0
                conflicts 0 0
                knows 0 1
                marks 0
                areAlike 0 1
                found 0
                for 0 2: searchByWalk 0 0 #
                search 0 0 2
                """);
        changesNothing(ORDINARY + "follow 0 0 2\n", "follow 0 0 2");
    }

    private static void fullLog() {
        notTaken(FULL_LOG, """
                add 0 0 0 50
                addValue 0 1 0 6
                removeValue 0 1 0 5
                replace 0 1 0 6
                rename 0 1 50
                move 0 3 0
                delete 0 3
                link 0 4 NONE
                rule 0 1 3 0 0 DENY
                add 1 0 0 50
                rule 3 0 3 0 0 DENY
                """);
        outOfRange(FULL_LOG, """
                add 0 0 0 100
                addValue 0 1 0 1000
                removeValue 0 1 0 1000
                replace 0 1 0 1000
                rename 0 1 100
                rule 0 1 3 0 0 3
                """);
        noSuch(FULL_LOG, """
                add 0 0 3 100
                addValue 0 1 5 1000
                removeValue 0 1 5 1000
                replace 0 1 5 1000
                rename 0 0 100
                move 0 0 1
                delete 0 0
                link 0 4 104
                rule 0 1 6 0 0 3
                """);
    }

    private static void noSuch(String scene, String calls) {
        refused(scene, calls, Calls.NO_SUCH);
    }

    private static void outOfRange(String scene, String calls) {
        refused(scene, calls, Calls.OUT_OF_RANGE);
    }

    private static void notTaken(String scene, String calls) {
        refused(scene, calls, Calls.NOT_TAKEN);
    }

    private static void refused(String scene, String calls, String due) {
        for (String call : Script.callsOf(calls)) {
            String got = Calls.answer(Script.make(scene), call);
            if (got.equals(due)) {
                Checks.right();
            } else {
                Checks.wrong(call + " answered " + got + ", due is " + due);
            }
        }
        changesNothing(scene, calls);
    }

    private static void changesNothing(String scene, String calls) {
        if (!UNTOUCHED.containsKey(scene)) {
            Script.run("the calls ahead", scene);
            UNTOUCHED.put(scene, probed(scene));
        }
        List<List<String>> due = UNTOUCHED.get(scene);
        for (String call : Script.callsOf(calls)) {
            List<List<String>> got = probed(scene + call);
            for (int i = 0; i < PROBES.length; i++) {
                if (got.get(i).equals(due.get(i))) {
                    Checks.right();
                } else {
                    Checks.wrong("behind " + call + " these answer " + got.get(i) + ", due is " + due.get(i)
                            + "\n" + PROBES[i]);
                }
            }
        }
    }

    private static List<List<String>> probed(String calls) {
        List<List<String>> answers = new ArrayList<>();
        for (String probe : PROBES) {
            Checks.is("an object is used for at most 512 calls",
                    Script.callsOf(calls).size() + Script.callsOf(probe).size() <= MOST, true);
            answers.add(Script.answers(Script.make(calls), probe));
        }
        return answers;
    }
}
