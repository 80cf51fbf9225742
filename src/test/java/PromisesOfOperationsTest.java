/** The sentences of the promises 1 to 15: a new object, the schema, drafted values, and the operations. */
final class PromisesOfOperationsTest {
    private static final Sentences SAYS = new Sentences();

    private PromisesOfOperationsTest() {
    }

    public static void main(String[] args) {
        newObject();
        attribute();
        objectClass();
        setsOfAttributes();
        serve();
        draft();
        undraft();
        add();
        addRefused();
        addValue();
        addValueRefused();
        removeValue();
        removeValueRefused();
        replace();
        replaceRefused();
        rename();
        renameRefused();
        move();
        moveRefused();
        delete();
        deleteRefused();
        link();
        linkRefused();
        rule();
        ruleRefused();
        SAYS.end("PromisesOfOperationsTest");
    }

    private static void newObject() {
        SAYS.of("Promise 1", "");
        SAYS.hold("The root alone, at four masters", """
                each 0 1 2 3: live # = 1
                each 0 1 2 3: nameOf # 0 = 0
                each 0 1 2 3: nameOf # 1 = noSuch
                each 0 1 2 3: childAt # 0 0 = NONE
                each 0 1 2 3: childAt # LOST 0 = NONE
                each 0 1 2 3: marks # = 0
                each 0 1 2 3: sweep # = 0
                each 0 1 2 3: knows 0 # = 0
                each 0 1 2 3: conflicts # 0 = 0
                each 0 1 2 3: conflicts # 1 = 0
                each 0 1 2 3: conflicts # 2 = 0
                each 1 2 3: areAlike 0 # = true
                each 1 2 3: exchange 0 # 250 = 0
                each -1 4: live # = noSuch
                """);
        SAYS.hold("The root alone", """
                -- an empty tree, and an empty log
                objectClass NONE 0 0 = 0
                ofClass 0 = 1
                each 0 1 2: search 0 0 # = 0
                each 0 1 2: follow 0 0 # = 0
                not = 1
                each 0 2: search 3 0 # = 1
                each 0 2: searchByWalk 3 0 # = 1
                each 0 2: follow 3 0 # = 1
                found 0 = 300
                search 3 0 1 = 0
                searchByWalk 3 0 1 = 0
                follow 3 0 1 = 0
                each 0 1 2 3: parentOf # 0 = NONE
                each 0 1 2 3: parentAnew # 0 = NONE
                each 0 1 2 3: serve # 0 = 0
                each 0 1 2 3: may # 5 0 0 = true
                each 0 1 2 3: may # 5 0 1 = false
                """);
        SAYS.hold("no attributes and classes", """
                each -1 0 1: draft # 0 = noSuch
                each -1 0 1: equal # 0 = noSuch
                each -1 0 1: atLeast # 0 = noSuch
                each -1 0 1: has # = noSuch
                each -1 0 1: valueAt 0 0 # 0 = noSuch
                each -1 0 1: valuesAnew 0 0 # = noSuch
                each -1 0 1: ofClass # = noSuch
                each -1 0 1: add 0 0 # 0 = noSuch
                each 0 -2: objectClass # 0 0 = noSuch
                each 1 -1: objectClass NONE # 0 = noSuch
                each 1 -1: objectClass NONE 0 # = noSuch
                objectClass NONE 0 0 = 0
                undraft = 0
                wipe = 0
                found 0 = noSuch
                """);
    }

    private static void attribute() {
        SAYS.of("Promise 2", "");
        SAYS.hold("Adds an attribute", """
                has 0 = noSuch
                attribute false false = 0
                has 0 = 1
                has 1 = noSuch
                """);
        SAYS.hold("whether an entry has at most one value of it", """
                attribute true false = 0
                attribute false false = 1
                objectClass NONE 0 3 = 0
                add 0 0 0 1 = 1
                addValue 0 1 0 1 = 1
                addValue 0 1 0 2 = notTaken
                for 1 5: addValue 0 1 1 # = #
                """);
        SAYS.hold("whether values match by tens", """
                attribute false true = 0
                attribute false false = 1
                objectClass NONE 0 3 = 0
                add 0 0 0 1 = 1
                addValue 0 1 0 0 = 1
                addValue 0 1 0 9 = notTaken
                addValue 0 1 0 10 = 2
                addValue 0 1 1 0 = 1
                addValue 0 1 1 9 = 2
                """);
        SAYS.hold("Returns its number", """
                attribute true true = 0
                attribute true false = 1
                attribute false true = 2
                for 3 9: attribute false false = #
                """);
        SAYS.hold("if there are 10", """
                for 0 8: attribute true true = #
                attribute true true = 9
                each false true: attribute # false = notTaken
                each false true: attribute # true = notTaken
                has 9 = 1
                has 10 = noSuch
                """);
    }

    private static void objectClass() {
        SAYS.of("Promise 3", "attribute false false = 0\nattribute false false = 1");
        SAYS.hold("Adds a class", """
                ofClass 0 = noSuch
                objectClass NONE 0 0 = 0
                ofClass 0 = 1
                ofClass 1 = noSuch
                """);
        SAYS.hold("its parent, or NONE", """
                each -2 0 1 MIN MAX: objectClass # 0 0 = noSuch
                objectClass NONE 0 0 = 0
                objectClass 0 0 0 = 1
                each -2 2 8 MIN MAX: objectClass # 0 0 = noSuch
                objectClass 1 0 0 = 2
                objectClass NONE 0 0 = 3
                """);
        SAYS.hold("Returns its number", """
                for 0 7: objectClass NONE 0 0 = #
                """);
        SAYS.hold("if there is no such class, or an attribute is in a set that there is not", """
                each 4 5 7 8 1024 MIN -1 MAX: objectClass NONE # 0 = noSuch
                each 4 5 7 8 1024 MIN -1 MAX: objectClass NONE 0 # = noSuch
                objectClass -2 4 0 = noSuch
                objectClass NONE 3 3 = 0
                attribute false false = 2
                objectClass NONE 4 4 = 1
                each 8 MIN: objectClass NONE # 0 = noSuch
                """);
        SAYS.hold("if there are 8", """
                for 0 7: objectClass NONE 0 0 = #
                objectClass NONE 0 0 = notTaken
                objectClass 7 3 3 = notTaken
                -- the other exception goes first
                each -2 8: objectClass # 0 0 = noSuch
                objectClass NONE 4 0 = noSuch
                objectClass NONE 0 4 = noSuch
                ofClass 8 = noSuch
                """);
    }

    private static void setsOfAttributes() {
        SAYS.of("Promise 3", "for 0 9: attribute false false = #");
        SAYS.hold("the attributes that it requires, as a set in which attribute k counts 2 to the power of k", """
                objectClass NONE 1 0 = 0
                objectClass NONE 2 0 = 1
                objectClass NONE 512 0 = 2
                objectClass NONE 513 0 = 3
                objectClass NONE 1024 0 = noSuch
                each 0 1 2 3: add 0 0 # 1 = notTaken
                draft 0 5 = 1
                each 1 2 3: add 0 0 # 1 = notTaken
                add 0 0 0 1 = 1
                draft 1 5 = 1
                each 0 2 3: add 0 0 # 2 = notTaken
                add 0 0 1 2 = 2
                draft 9 5 = 1
                each 0 1 3: add 0 0 # 3 = notTaken
                add 0 0 2 3 = 3
                draft 9 5 = 1
                draft 0 5 = 2
                each 0 1 2: add 0 0 # 4 = notTaken
                add 0 0 3 4 = 4
                removeValue 0 4 9 5 = notTaken
                """);
        SAYS.hold("the attributes that it allows, likewise", """
                objectClass NONE 0 1 = 0
                objectClass NONE 0 512 = 1
                objectClass NONE 0 1023 = 2
                objectClass NONE 0 0 = 3
                objectClass NONE 0 1024 = noSuch
                for 1 4: add 0 0 #-1 # = #
                addValue 0 1 0 5 = 1
                for 1 9: addValue 0 1 # 5 = notTaken
                for 0 8: addValue 0 2 # 5 = notTaken
                addValue 0 2 9 5 = 1
                for 0 9: addValue 0 3 # 5 = 1
                for 0 9: addValue 0 4 # 5 = notTaken
                """);
    }

    private static void serve() {
        SAYS.of("Promise 4", Preludes.TOLD);
        SAYS.hold("Lets a master serve a user from now on", """
                rename 0 1 9 = 1
                serve 0 3 = 0
                rename 0 1 8 = notTaken
                rename 1 1 8 = 1
                serve 0 0 = 3
                rename 0 1 8 = 9
                """);
        SAYS.hold("`master`: 0 to 3", """
                each 0 3: serve # 1 = 0
                each -1 4 MIN MAX: serve # 1 = noSuch
                """);
        SAYS.hold("`user`: 0 to 5", """
                serve 0 5 = 0
                each -1 6 MIN MAX: serve 0 # = noSuch
                serve 0 0 = 5
                """);
        SAYS.hold("Returns the user that it served", """
                serve 2 5 = 0
                serve 2 5 = 5
                serve 2 1 = 5
                serve 2 0 = 1
                serve 1 0 = 0
                """);
        SAYS.hold("if there is no such master or user", """
                serve 4 6 = noSuch
                serve 4 0 = noSuch
                serve 0 6 = noSuch
                serve 0 0 = 0
                """);
    }

    private static void draft() {
        SAYS.of("Promise 5", "each 0 1: attribute false false = #\nobjectClass NONE 0 3 = 0");
        SAYS.hold("Drafts a value for the next entry that is added", """
                draft 0 7 = 1
                add 3 0 0 1 = 1
                add 3 0 0 2 = 2
                valueAt 3 1 0 0 = 7
                valueAt 3 2 0 0 = NONE
                """);
        SAYS.hold("its number", """
                each 0 1: draft # 5 = #+1
                each -1 2 10 MIN MAX: draft # 5 = noSuch
                """);
        SAYS.hold("`value`: 0 to 999", """
                draft 0 0 = 1
                draft 0 999 = 2
                each -1 1000 MIN MAX: draft 0 # = outOfRange
                """);
        SAYS.hold("Returns how many values are drafted then", """
                for 1 12: draft 0 5 = #
                undraft = 12
                draft 1 5 = 1
                """);
        SAYS.hold("if there is no such attribute", """
                each -1 1000: draft 2 # = noSuch
                for 1 12: draft 1 # = #
                draft 2 5 = noSuch
                draft 2 1000 = noSuch
                """);
        SAYS.hold("if value is out of range", """
                for 1 12: draft 1 # = #
                each -1 1000: draft 0 # = outOfRange
                undraft = 12
                """);
        SAYS.hold("if there are 12", """
                for 1 11: draft 0 # = #
                draft 0 12 = 12
                each 0 1: draft # 50 = notTaken
                add 0 0 0 1 = 1
                valuesAnew 0 1 0 = 12
                draft 0 50 = 1
                """);
    }

    private static void undraft() {
        SAYS.of("Promise 6", "attribute false false = 0\nobjectClass NONE 0 1 = 0");
        SAYS.hold("Drops all drafted values", """
                for 1 12: draft 0 # = #
                undraft
                draft 0 1 = 1
                undraft
                add 0 0 0 1 = 1
                valuesAnew 0 1 0 = 0
                """);
        SAYS.hold("Returns how many there were", """
                undraft = 0
                draft 0 1 = 1
                undraft = 1
                undraft = 0
                for 1 12: draft 0 # = #
                undraft = 12
                draft 0 1 = 1
                add 0 0 0 1 = 1
                undraft = 0
                """);
    }

    private static void add() {
        SAYS.of("Promise 7", Preludes.SCHEMA);
        SAYS.hold("Adds an entry with the drafted values, of which there are none then", """
                draft 0 5 = 1
                draft 2 6 = 2
                add 0 0 1 1 = 1
                valueAt 0 1 0 0 = 5
                valueAt 0 1 2 0 = 6
                undraft = 0
                add 0 0 1 2 = notTaken
                add 0 0 0 2 = 2
                for 0 4: valuesAnew 0 2 # = 0
                -- what is drafted goes to any master, and stays when the entry is not taken
                draft 0 7 = 1
                add 0 0 0 1 = notTaken
                add 3 0 0 1 = 3
                valueAt 3 3 0 0 = 7
                """);
        SAYS.hold("`master`: 0 to 3", """
                add 0 0 0 5 = 1
                add 3 0 0 5 = 2
                each -1 4 MIN MAX: add # 0 0 6 = noSuch
                """);
        SAYS.hold("`klass`: its class", """
                each 0 2: add 0 0 # #
                each -1 3 8 MIN MAX: add 0 0 # 9 = noSuch
                ofClass 2 = 1
                search 0 0 2 = 1
                found 0 = 2
                """);
        SAYS.hold("`name`: 0 to 99", """
                add 0 0 0 0 = 1
                add 0 0 0 99 = 2
                each -1 100 MIN MAX: add 0 0 0 # = outOfRange
                nameOf 0 1 = 0
                nameOf 0 2 = 99
                """);
        SAYS.hold("Returns its number", """
                for 1 12: add 0 0 0 # = #
                each 13 14 15: add 3 0 0 # = #
                delete 0 12 = 1
                add 0 0 0 16 = 16
                """);
        SAYS.of("Promise 7", Preludes.FULL_SCHEMA + "for 1 46: add 0 0 0 # = #");
        SAYS.hold("`parent`: an entry", """
                add 0 46 0 0 = 47
                parentOf 0 47 = 46
                each -1 LOST 48 MIN MAX: add 0 # 0 0 = noSuch
                """);
        SAYS.hold("there are 48 entries", """
                add 0 0 0 99 = 47
                add 0 0 0 98 = notTaken
                each 1 2 3: add # 0 0 99 = notTaken
                delete 0 47 = 1
                add 0 0 0 99 = notTaken
                -- the other exceptions go first
                add 0 0 0 100 = outOfRange
                add 0 0 8 100 = noSuch
                knows 0 0 = 48
                """);
    }

    private static void addRefused() {
        SAYS.of("Promise 7", Preludes.SCHEMA + "add 0 0 0 1 = 1\nadd 1 0 0 2 = 2");
        SAYS.hold("if there is no such master, entry there, or class", """
                each -1 4: add # 0 0 100 = noSuch
                each 2 3 -1 LOST 48: add 0 # 0 100 = noSuch
                each -1 3: add 0 0 # 100 = noSuch
                -- ahead of what is not taken
                serve 0 3 = 0
                add 0 2 0 1 = noSuch
                add 0 0 3 1 = noSuch
                knows 0 0 = 1
                """);
        SAYS.hold("if name is out of range", """
                draft 4 0 = 1
                serve 0 3 = 0
                each -1 100: add 0 0 2 # = outOfRange
                undraft = 1
                """);
        SAYS.hold("if it is not taken as told", """
                add 0 0 0 1 = notTaken
                add 0 0 1 5 = notTaken
                draft 4 0 = 1
                add 0 0 0 5 = notTaken
                undraft = 1
                serve 0 3 = 0
                add 0 0 0 5 = notTaken
                serve 0 0 = 3
                add 0 0 0 5 = 3
                """);
        SAYS.of("Promise 7", Preludes.NEARLY_FULL_LOG);
        SAYS.hold("or 250 changes", """
                add 0 0 0 9 = 5
                each 0 1: add # 0 0 10 = notTaken
                add 0 0 0 100 = outOfRange
                add 0 0 3 100 = noSuch
                live 0 = 6
                """);
    }

    private static void addValue() {
        SAYS.of("Promise 8", Preludes.TOLD);
        SAYS.hold("Adds a value", """
                addValue 3 1 0 7 = 1
                valueAt 3 1 0 0 = 7
                valueAt 0 1 0 0 = NONE
                """);
        SAYS.hold("`master`: 0 to 3", """
                each 0 3: addValue # 1 0 7 = 1
                each -1 4 MIN MAX: addValue # 1 0 8 = noSuch
                """);
        SAYS.hold("its number", """
                each 0 3: addValue 0 1 # 7 = 1
                each -1 5 10 MIN MAX: addValue 0 1 # 7 = noSuch
                """);
        SAYS.hold("`value`: 0 to 999", """
                addValue 0 1 0 0 = 1
                addValue 0 1 0 999 = 2
                each -1 1000 MIN MAX: addValue 0 1 0 # = outOfRange
                valueAt 0 1 0 0 = 0
                valueAt 0 1 0 1 = 999
                """);
        SAYS.hold("Returns how many values of the attribute the entry has then", """
                for 1 20: addValue 0 1 0 # = #
                addValue 0 2 0 1 = 1
                addValue 0 1 1 1 = 1
                """);
        SAYS.of("Promise 8", Preludes.FULL_TREE);
        SAYS.hold("`entry`: an entry but the root", """
                each 1 47: addValue 0 # 0 7 = 1
                each 0 48 -1 MIN MAX: addValue 0 # 0 7 = noSuch
                """);
    }

    private static void addValueRefused() {
        SAYS.of("Promise 8", Preludes.TREE + "addValue 0 1 0 5 = 1");
        SAYS.hold("if there is no such master, entry there (or it is the root), or attribute", """
                each -1 4: addValue # 1 0 1000 = noSuch
                each 0 5 -1: addValue 0 # 0 1000 = noSuch
                addValue 1 1 0 5 = noSuch
                each -1 5: addValue 0 1 # 1000 = noSuch
                serve 0 3 = 0
                each 0 5: addValue 0 # 0 5 = noSuch
                """);
        SAYS.hold("if value is out of range", """
                serve 0 3 = 0
                each -1 1000: addValue 0 1 4 # = outOfRange
                """);
        SAYS.hold("if it is not taken as told", """
                addValue 0 1 0 5 = notTaken
                addValue 0 1 4 5 = notTaken
                serve 0 3 = 0
                addValue 0 1 0 6 = notTaken
                serve 0 0 = 3
                addValue 0 1 0 6 = 2
                """);
        SAYS.of("Promise 8", Preludes.NEARLY_FULL_LOG);
        SAYS.hold("or there are 250 changes", """
                addValue 0 1 0 6 = 2
                addValue 0 1 0 7 = notTaken
                addValue 0 1 0 1000 = outOfRange
                addValue 0 1 5 1000 = noSuch
                valuesAnew 0 1 0 = 2
                """);
    }

    private static void removeValue() {
        SAYS.of("Promise 9", Preludes.TREE + """
                each 1 2 3: addValue 0 1 #-1 0 = 1
                each 0 1: addValue 0 1 # 999 = 2
                addValue 0 1 3 5 = 1
                addValue 0 2 0 0 = 1
                each 1 2 3: exchange 0 # 250 = 11
                """);
        SAYS.hold("Removes a value", """
                removeValue 3 1 0 0 = 1
                valueAt 3 1 0 0 = 999
                valueAt 0 1 0 0 = 0
                valueAt 3 2 0 0 = 0
                """);
        SAYS.hold("`master`: 0 to 3", """
                each 0 3: removeValue # 1 0 0 = 1
                each -1 4 MIN MAX: removeValue # 1 0 999 = noSuch
                """);
        SAYS.hold("its number", """
                removeValue 0 1 0 0 = 1
                removeValue 0 1 3 5 = 0
                each -1 5 10 MIN MAX: removeValue 0 1 # 0 = noSuch
                """);
        SAYS.hold("`value`: 0 to 999: one that matches it", """
                each -1 1000 MIN MAX: removeValue 0 1 0 # = outOfRange
                each 1 998: removeValue 0 1 0 # = notTaken
                removeValue 0 1 0 999 = 1
                removeValue 0 1 0 0 = 0
                each 10 989: removeValue 0 1 1 # = notTaken
                removeValue 0 1 1 9 = 1
                removeValue 0 1 1 990 = 0
                """);
        SAYS.hold("Returns how many values of the attribute the entry has then", """
                removeValue 0 1 0 0 = 1
                addValue 0 1 0 5 = 2
                removeValue 0 1 0 999 = 1
                removeValue 0 1 0 5 = 0
                removeValue 0 1 2 0 = 0
                """);
        SAYS.of("Promise 9", Preludes.FULL_TREE + "each 1 47: addValue 0 # 0 7 = 1");
        SAYS.hold("`entry`: an entry but the root", """
                each 0 48 -1 MIN MAX: removeValue 0 # 0 7 = noSuch
                each 1 47: removeValue 0 # 0 7 = 0
                """);
    }

    private static void removeValueRefused() {
        SAYS.of("Promise 9", Preludes.TREE + "addValue 0 1 0 5 = 1");
        SAYS.hold("if there is no such master, entry there (or it is the root), or attribute", """
                each -1 4: removeValue # 1 0 1000 = noSuch
                each 0 5 -1: removeValue 0 # 0 1000 = noSuch
                removeValue 1 1 0 5 = noSuch
                each -1 5: removeValue 0 1 # 1000 = noSuch
                serve 0 3 = 0
                each 0 5: removeValue 0 # 0 5 = noSuch
                """);
        SAYS.hold("if value is out of range", """
                serve 0 3 = 0
                each -1 1000: removeValue 0 1 4 # = outOfRange
                """);
        SAYS.hold("if it is not taken as told", """
                each 4 6: removeValue 0 1 0 # = notTaken
                removeValue 0 1 4 5 = notTaken
                serve 0 3 = 0
                removeValue 0 1 0 5 = notTaken
                serve 0 0 = 3
                removeValue 0 1 0 5 = 0
                removeValue 0 1 0 5 = notTaken
                draft 0 5 = 1
                add 0 0 1 9 = 5
                removeValue 0 5 0 5 = notTaken
                """);
        SAYS.of("Promise 9", Preludes.NEARLY_FULL_LOG);
        SAYS.hold("or there are 250 changes", """
                removeValue 0 1 0 5 = 0
                """);
        SAYS.of("Promise 9", Preludes.FULL_LOG);
        SAYS.hold("or there are 250 changes", """
                removeValue 0 1 0 5 = notTaken
                removeValue 0 1 0 1000 = outOfRange
                removeValue 0 1 5 1000 = noSuch
                valuesAnew 0 1 0 = 1
                """);
    }

    private static void replace() {
        SAYS.of("Promise 10", Preludes.TOLD);
        SAYS.hold("Replaces all values of an attribute by one", """
                for 1 9: addValue 0 1 0 # = #
                addValue 0 1 1 5 = 1
                addValue 0 2 0 5 = 1
                replace 0 1 0 5 = 9
                valueAt 0 1 0 0 = 5
                valueAt 0 1 0 1 = NONE
                valueAt 0 1 1 0 = 5
                valueAt 0 2 0 0 = 5
                replace 0 1 0 999 = 1
                valueAt 0 1 0 0 = 999
                valuesAnew 0 1 0 = 1
                valueAt 1 1 0 0 = NONE
                """);
        SAYS.hold("`master`: 0 to 3", """
                each 0 3: replace # 1 0 7 = 0
                each -1 4 MIN MAX: replace # 1 0 8 = noSuch
                """);
        SAYS.hold("its number", """
                each 0 3: replace 0 1 # 7 = 0
                each -1 5 10 MIN MAX: replace 0 1 # 7 = noSuch
                """);
        SAYS.hold("`value`: 0 to 999", """
                replace 0 1 0 0 = 0
                valueAt 0 1 0 0 = 0
                replace 0 1 0 999 = 1
                each -1 1000 MIN MAX: replace 0 1 0 # = outOfRange
                valueAt 0 1 0 0 = 999
                """);
        SAYS.hold("Returns how many values of the attribute the entry had", """
                each 2 3: replace 0 1 # 5 = 0
                each 2 3: replace 0 1 # 6 = 1
                for 1 3: addValue 0 1 0 # = #
                addValue 0 1 1 1 = 1
                replace 0 1 0 1 = 3
                replace 0 1 0 1 = 1
                """);
        SAYS.of("Promise 10", Preludes.FULL_TREE);
        SAYS.hold("`entry`: an entry but the root", """
                each 1 47: replace 0 # 0 7 = 0
                each 0 48 -1 MIN MAX: replace 0 # 0 7 = noSuch
                """);
    }

    private static void replaceRefused() {
        SAYS.of("Promise 10", Preludes.TREE + "addValue 0 1 0 5 = 1");
        SAYS.hold("if there is no such master, entry there (or it is the root), or attribute", """
                each -1 4: replace # 1 0 1000 = noSuch
                each 0 5 -1: replace 0 # 0 1000 = noSuch
                replace 1 1 0 5 = noSuch
                each -1 5: replace 0 1 # 1000 = noSuch
                serve 0 3 = 0
                each 0 5: replace 0 # 0 5 = noSuch
                """);
        SAYS.hold("if value is out of range", """
                serve 0 3 = 0
                each -1 1000: replace 0 1 4 # = outOfRange
                """);
        SAYS.hold("if it is not taken as told", """
                replace 0 1 4 5 = notTaken
                serve 0 3 = 0
                replace 0 1 0 6 = notTaken
                valueAt 0 1 0 0 = 5
                """);
        SAYS.of("Promise 10", Preludes.NEARLY_FULL_LOG);
        SAYS.hold("or there are 250 changes", """
                replace 0 1 0 6 = 1
                replace 0 1 0 7 = notTaken
                replace 0 1 0 1000 = outOfRange
                replace 0 1 5 1000 = noSuch
                valueAt 0 1 0 0 = 6
                """);
    }

    private static void rename() {
        SAYS.of("Promise 11", Preludes.TOLD);
        SAYS.hold("Renames an entry", """
                rename 0 1 50 = 1
                nameOf 0 1 = 50
                nameOf 1 1 = 1
                rename 0 2 50 = 2
                nameOf 0 2 = 50
                """);
        SAYS.hold("`master`: 0 to 3", """
                each 0 3: rename # 1 50 = 1
                each -1 4 MIN MAX: rename # 1 51 = noSuch
                """);
        SAYS.hold("`name`: 0 to 99", """
                rename 0 1 0 = 1
                nameOf 0 1 = 0
                rename 0 1 99 = 0
                each -1 100 101 MIN MAX: rename 0 1 # = outOfRange
                nameOf 0 1 = 99
                """);
        SAYS.hold("Returns the name with which it was shown", """
                rename 0 1 99 = 1
                rename 0 1 0 = 99
                add 1 0 0 9 = 5
                add 2 0 0 9 = 6
                exchange 1 0 250 = 1
                exchange 2 0 250 = 1
                rename 0 6 7 = 106
                rename 0 5 8 = 9
                """);
        SAYS.of("Promise 11", Preludes.FULL_TREE);
        SAYS.hold("`entry`: an entry but the root", """
                rename 0 1 0 = 1
                rename 0 47 99 = 47
                each 0 48 -1 MIN MAX: rename 0 # 98 = noSuch
                """);
    }

    private static void renameRefused() {
        SAYS.of("Promise 11", Preludes.TREE);
        SAYS.hold("if there is no such master, or entry there (or it is the root)", """
                each -1 4: rename # 1 100 = noSuch
                each 0 5 -1: rename 0 # 100 = noSuch
                rename 1 1 4 = noSuch
                serve 0 3 = 0
                each 0 5: rename 0 # 1 = noSuch
                """);
        SAYS.hold("if name is out of range", """
                serve 0 3 = 0
                each -1 100: rename 0 1 # = outOfRange
                """);
        SAYS.hold("if it is not taken as told", """
                rename 0 1 4 = notTaken
                serve 0 3 = 0
                rename 0 1 50 = notTaken
                nameOf 0 1 = 1
                """);
        SAYS.of("Promise 11", Preludes.NEARLY_FULL_LOG);
        SAYS.hold("or there are 250 changes", """
                rename 0 1 50 = 1
                rename 0 1 51 = notTaken
                rename 0 1 100 = outOfRange
                rename 0 0 100 = noSuch
                nameOf 0 1 = 50
                """);
    }

    private static void move() {
        SAYS.of("Promise 12", Preludes.TOLD);
        SAYS.hold("Moves an entry to another parent", """
                move 0 2 4 = 1
                parentOf 0 2 = 4
                parentOf 1 2 = 1
                parentOf 0 3 = 2
                childAt 0 1 0 = NONE
                childAt 0 4 0 = 2
                """);
        SAYS.hold("`master`: 0 to 3", """
                each 0 3: move # 2 4 = 1
                each -1 4 MIN MAX: move # 3 0 = noSuch
                """);
        SAYS.hold("Returns where it was shown: an entry, or LOST", """
                move 0 3 0 = 2
                move 0 3 4 = 0
                move 0 3 1 = 4
                delete 1 1 = notTaken
                delete 1 3 = 1
                delete 1 2 = 2
                delete 1 1 = 3
                exchange 0 1 250 = 3
                -- 1 is deleted, and 3, too
                add 2 1 0 9 = 5
                exchange 2 1 250 = 1
                move 1 5 0 = LOST
                move 1 5 4 = 0
                """);
        SAYS.of("Promise 12", Preludes.FULL_TREE);
        SAYS.hold("`entry`: an entry but the root", """
                move 0 1 2 = 0
                move 0 47 2 = 0
                each 0 48 -1 MIN MAX: move 0 # 2 = noSuch
                """);
        SAYS.hold("`parent`: an entry", """
                move 0 2 47 = 0
                move 0 2 1 = 47
                move 0 2 0 = 1
                each 48 -1 LOST MIN MAX: move 0 2 # = noSuch
                parentOf 0 2 = 0
                """);
    }

    private static void moveRefused() {
        SAYS.of("Promise 12", Preludes.TREE);
        SAYS.hold("if there is no such master, or entry there, of either (or the one to be moved is the root)", """
                each -1 4: move # 1 1 = noSuch
                each 0 5 -1: move 0 # 0 = noSuch
                each 0 5 -1: move 0 # # = noSuch
                each 5 -1 LOST: move 0 1 # = noSuch
                move 1 1 0 = noSuch
                add 1 0 0 9 = 5
                move 1 5 1 = noSuch
                serve 0 3 = 0
                move 0 0 1 = noSuch
                move 0 1 5 = noSuch
                """);
        SAYS.hold("if it is not taken as told", """
                each 1 2 3: move 0 1 # = notTaken
                add 0 1 0 4 = 5
                move 0 4 1 = notTaken
                serve 0 3 = 0
                move 0 3 0 = notTaken
                parentOf 0 3 = 2
                """);
        SAYS.of("Promise 12", Preludes.NEARLY_FULL_LOG);
        SAYS.hold("or there are 250 changes", """
                move 0 3 0 = 2
                move 0 3 1 = notTaken
                move 0 0 1 = noSuch
                move 0 3 5 = noSuch
                parentOf 0 3 = 0
                """);
    }

    private static void delete() {
        SAYS.of("Promise 13", Preludes.TOLD);
        SAYS.hold("Deletes an entry", """
                delete 0 4 = 1
                nameOf 0 4 = noSuch
                nameOf 1 4 = 4
                live 0 = 4
                childAt 0 0 1 = NONE
                """);
        SAYS.hold("`master`: 0 to 3", """
                each 0 3: delete # 4 = 1
                each -1 4 MIN MAX: delete # 3 = noSuch
                """);
        SAYS.hold("Returns how many marks the master has then", """
                delete 0 4 = 1
                delete 0 3 = 2
                delete 1 4 = 1
                exchange 0 1 250 = 2
                delete 1 2 = 3
                exchange 1 2 250 = 4
                exchange 1 3 250 = 4
                exchange 3 1 0 = 0
                sweep 1 = 2
                -- the mark of the entry 2 is kept, as the master 0 does not know of that deletion
                delete 1 1 = 2
                """);
        SAYS.of("Promise 13", Preludes.FULL_TREE);
        SAYS.hold("`entry`: an entry but the root", """
                each 0 48 -1 MIN MAX: delete 0 # = noSuch
                delete 0 1 = 1
                delete 0 47 = 2
                -- all of them
                for 2 46: delete 0 # = #+1
                live 0 = 1
                marks 0 = 47
                """);
    }

    private static void deleteRefused() {
        SAYS.of("Promise 13", Preludes.TREE);
        SAYS.hold("if there is no such master, or entry there (or it is the root)", """
                each -1 4: delete # 1 = noSuch
                each 0 5 -1 LOST: delete 0 # = noSuch
                delete 1 4 = noSuch
                delete 0 4 = 1
                delete 0 4 = noSuch
                serve 0 3 = 0
                each 0 4 5: delete 0 # = noSuch
                """);
        SAYS.hold("if it is not taken as told", """
                each 1 2: delete 0 # = notTaken
                serve 0 3 = 0
                delete 0 4 = notTaken
                marks 0 = 0
                """);
        SAYS.of("Promise 13", Preludes.NEARLY_FULL_LOG);
        SAYS.hold("or there are 250 changes", """
                delete 0 3 = 1
                delete 0 2 = notTaken
                delete 0 3 = noSuch
                delete 0 0 = noSuch
                live 0 = 4
                """);
    }

    private static void link() {
        SAYS.of("Promise 14", Preludes.TOLD);
        SAYS.hold("Sets the link of an entry", """
                link 0 1 4 = NONE
                linkOf 0 1 = 4
                linkOf 1 1 = NONE
                linkOf 0 4 = NONE
                """);
        SAYS.hold("`master`: 0 to 3", """
                each 0 3: link # 1 4 = NONE
                each -1 4 MIN MAX: link # 2 4 = noSuch
                """);
        SAYS.hold("Returns what it was", """
                link 0 1 0 = NONE
                link 0 1 4 = 0
                link 0 1 100 = 4
                link 0 1 103 = 100
                link 0 1 103 = 103
                link 0 1 NONE = 103
                link 0 1 NONE = NONE
                -- also when the one that it told is deleted
                link 0 1 4 = NONE
                delete 0 4 = 1
                link 0 1 2 = 4
                """);
        SAYS.of("Promise 14", Preludes.FULL_TREE);
        SAYS.hold("`entry`: an entry but the root", """
                each 1 47: link 0 # 2 = NONE
                each 0 48 -1 MIN MAX: link 0 # 2 = noSuch
                """);
        SAYS.hold("NONE; an entry, for an alias; 100 and a master, together, for a referral", """
                link 0 1 NONE = NONE
                link 0 1 0 = NONE
                link 0 1 47 = 0
                link 0 1 100 = 47
                link 0 1 103 = 100
                each -2 48 99 104 147 MIN MAX: link 0 1 # = noSuch
                linkOf 0 1 = 103
                """);
    }

    private static void linkRefused() {
        SAYS.of("Promise 14", Preludes.TREE);
        SAYS.hold("if there is no such master, or entry there (or it is the root), or target is none of these", """
                each -1 4: link # 1 1 = noSuch
                each 0 5 -1: link 0 # 1 = noSuch
                link 0 0 0 = noSuch
                link 1 1 NONE = noSuch
                each -2 99 104: link 0 1 # = noSuch
                serve 0 3 = 0
                each -2 99 104: link 0 1 # = noSuch
                link 0 0 1 = noSuch
                """);
        SAYS.hold("or an entry that is not live there", """
                add 1 0 0 9 = 5
                delete 0 4 = 1
                each 4 5 6 47: link 0 1 # = noSuch
                linkOf 0 1 = NONE
                """);
        SAYS.hold("if it is not taken as told", """
                link 0 1 1 = notTaken
                link 0 3 3 = notTaken
                serve 0 3 = 0
                each NONE 4 100: link 0 1 # = notTaken
                linkOf 0 1 = NONE
                """);
        SAYS.of("Promise 14", Preludes.NEARLY_FULL_LOG);
        SAYS.hold("or there are 250 changes", """
                link 0 4 NONE = 100
                link 0 4 NONE = notTaken
                link 0 4 4 = notTaken
                link 0 4 104 = noSuch
                link 0 0 1 = noSuch
                """);
    }

    private static void rule() {
        SAYS.of("Promise 15", Preludes.TOLD);
        SAYS.hold("Sets what a rule says.", """
                rule 0 1 3 0 0 DENY = NOTHING
                may 0 3 1 0 = false
                may 1 3 1 0 = true
                """);
        SAYS.hold("The user needs the right to write on the entry", """
                rule 0 1 3 0 1 ALLOW = NOTHING
                serve 0 3 = 0
                rule 0 1 4 0 1 ALLOW = NOTHING
                each 0 2 4: rule 0 # 4 0 1 ALLOW = notTaken
                -- and needs it still when it takes it from itself
                rule 0 1 3 0 1 NOTHING = ALLOW
                rule 0 1 3 0 1 ALLOW = notTaken
                """);
        SAYS.hold("`master`: 0 to 3", """
                each 0 3: rule # 1 3 0 0 DENY = NOTHING
                each -1 4 MIN MAX: rule # 1 3 0 0 DENY = noSuch
                """);
        SAYS.hold("a user, 100 and an entry, together, for a group, or ALL", """
                each 0 5 ALL 100 104: rule 0 1 # 0 0 DENY = NOTHING
                each 0 5 ALL 100 104: rule 0 1 # 0 0 DENY = DENY
                each -2 6 99 105 148 MIN MAX: rule 0 1 # 0 0 DENY = noSuch
                """);
        SAYS.hold("`scope`: 0 to 2", """
                each 0 2: rule 0 1 3 # 0 DENY = NOTHING
                each -1 3 MIN MAX: rule 0 1 3 # 0 DENY = noSuch
                """);
        SAYS.hold("`right`: 0 to read, 1 to write", """
                each 0 1: rule 0 1 3 0 # DENY = NOTHING
                each -1 2 MIN MAX: rule 0 1 3 0 # DENY = noSuch
                """);
        SAYS.hold("`says`: NOTHING, ALLOW or DENY", """
                rule 0 1 3 0 0 NOTHING = NOTHING
                rule 0 1 3 0 0 DENY = NOTHING
                each -1 3 MIN MAX: rule 0 1 3 0 0 # = outOfRange
                rule 0 1 3 0 0 ALLOW = DENY
                """);
        SAYS.hold("Returns what it said", """
                rule 0 1 3 0 0 ALLOW = NOTHING
                rule 0 1 3 0 0 ALLOW = ALLOW
                rule 0 1 3 0 0 DENY = ALLOW
                rule 0 1 3 0 0 NOTHING = DENY
                rule 0 1 3 0 0 NOTHING = NOTHING
                -- at the master that is asked
                rule 0 1 3 0 0 DENY = NOTHING
                rule 1 1 3 0 0 ALLOW = NOTHING
                """);
        SAYS.of("Promise 15", Preludes.FULL_TREE);
        SAYS.hold("`entry`: an entry", """
                each 0 47: rule 0 # 147 2 1 DENY = NOTHING
                each 0 47: rule 0 # 147 2 1 DENY = DENY
                each 48 -1 LOST MIN MAX: rule 0 # 3 0 0 DENY = noSuch
                """);
    }

    private static void ruleRefused() {
        SAYS.of("Promise 15", Preludes.TREE);
        SAYS.hold("if there is no such master, entry there, subject (a group has to be live there), scope or right", """
                each -1 4: rule # 1 3 0 0 3 = noSuch
                each -1 5: rule 0 # 3 0 0 3 = noSuch
                rule 1 1 3 0 0 DENY = noSuch
                each -2 6 99 105: rule 0 1 # 0 0 3 = noSuch
                each -1 3: rule 0 1 3 # 0 3 = noSuch
                each -1 2: rule 0 1 3 0 # 3 = noSuch
                serve 0 3 = 0
                rule 0 1 6 0 0 DENY = noSuch
                rule 0 1 3 3 0 DENY = noSuch
                rule 0 1 3 0 2 DENY = noSuch
                """);
        SAYS.hold("(a group has to be live there)", """
                add 1 0 0 9 = 5
                delete 0 4 = 1
                each 104 105 147: rule 0 1 # 0 0 DENY = noSuch
                rule 1 5 105 0 0 DENY = NOTHING
                rule 1 0 100 0 0 DENY = NOTHING
                """);
        SAYS.hold("if says is out of range", """
                serve 0 3 = 0
                each -1 3: rule 0 1 3 0 0 # = outOfRange
                """);
        SAYS.hold("if the user may not write", """
                serve 0 3 = 0
                each 0 1: rule 0 # 3 0 1 ALLOW = notTaken
                may 0 3 1 1 = false
                """);
        SAYS.of("Promise 15", Preludes.NEARLY_FULL_LOG);
        SAYS.hold("or there are 250 changes", """
                rule 0 1 3 0 0 DENY = NOTHING
                rule 0 1 3 0 0 NOTHING = notTaken
                rule 0 1 3 0 0 3 = outOfRange
                rule 0 1 6 0 0 3 = noSuch
                may 0 3 1 0 = false
                """);
    }
}
