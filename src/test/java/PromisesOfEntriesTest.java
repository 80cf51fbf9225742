/** The sentences of the promises 29 to 37: what is asked of entries. */
final class PromisesOfEntriesTest {
    private static final Sentences SAYS = new Sentences();

    private PromisesOfEntriesTest() {
    }

    public static void main(String[] args) {
        live();
        parentOf();
        parentAnew();
        nameOf();
        valueAt();
        manyValues();
        valuesAnew();
        linkOf();
        may();
        childAt();
        manyChildren();
        SAYS.end("PromisesOfEntriesTest");
    }

    private static void live() {
        SAYS.of("Promise 29", Preludes.FULL_TREE);
        SAYS.hold("Returns how many entries are live at a master, the root included", """
                each 0 1 2 3: live # = 48
                delete 0 47 = 1
                live 0 = 47
                live 1 = 48
                for 1 46: delete 0 # = #+1
                live 0 = 1
                exchange 0 1 46 = 46
                live 1 = 2
                exchange 0 1 250 = 1
                live 1 = 1
                """);
        SAYS.hold("`master`: 0 to 3", """
                each 0 3: live # = 48
                each -1 4 MIN MAX: live # = noSuch
                """);
        SAYS.of("Promise 29", Preludes.TREE);
        SAYS.hold("Returns how many.", """
                live 0 = 5
                each 1 2 3: live # = 1
                exchange 0 1 1 = 1
                live 1 = 2
                """);
        SAYS.hold("if there is no such master", """
                each -1 4: live # = noSuch
                """);
    }

    private static void parentOf() {
        SAYS.of("Promise 30", Preludes.TOLD);
        SAYS.hold("Returns where an entry is shown", """
                parentOf 0 3 = 2
                move 0 3 4 = 2
                parentOf 0 3 = 4
                parentOf 1 3 = 2
                """);
        SAYS.hold("`master`: 0 to 3", """
                each 0 3: parentOf # 3 = 2
                each -1 4 MIN MAX: parentOf # 0 = noSuch
                """);
        SAYS.hold("Returns an entry, or LOST; NONE for the root", """
                each 0 1 2 3: parentOf # 0 = NONE
                parentOf 0 1 = 0
                delete 0 4 = 1
                add 1 4 0 9 = 5
                add 1 5 0 9 = 6
                exchange 1 0 250 = 2
                parentOf 0 5 = LOST
                parentOf 0 6 = 5
                """);
        SAYS.hold("if there is no such master, or entry there", """
                delete 0 4 = 1
                add 1 0 0 9 = 5
                each 4 5 6 48 -1: parentOf 0 # = noSuch
                each 6 48 -1: parentOf 1 # = noSuch
                each -1 4: parentOf # # = noSuch
                parentOf 1 4 = 0
                """);
        SAYS.of("Promise 30", Preludes.FULL_TREE);
        SAYS.hold("`entry`: an entry", """
                each 1 47: parentOf 3 # = 0
                each -1 LOST 48 64 MIN MAX: parentOf 3 # = noSuch
                """);
    }

    private static void parentAnew() {
        SAYS.of("Promise 31", Preludes.TOLD);
        SAYS.hold("Returns the same, by doing all changes that the master knows anew, in order", """
                move 0 1 4 = 0
                move 1 4 1 = 0
                exchange 0 1 250 = 1
                each 1 2 3 4: parentOf 1 #
                parentAnew 1 1 = 4
                parentAnew 1 4 = 0
                -- the master that is asked, not the one that was asked last
                parentAnew 2 1 = 0
                parentAnew 2 4 = 0
                parentAnew 0 1 = 4
                parentAnew 0 3 = 2
                """);
        SAYS.hold("`master`: 0 to 3", """
                each 0 3: parentAnew # 3 = 2
                each -1 4 MIN MAX: parentAnew # 0 = noSuch
                """);
        SAYS.hold("Returns an entry, or LOST; NONE for the root", """
                each 0 1 2 3: parentAnew # 0 = NONE
                parentAnew 0 1 = 0
                delete 0 4 = 1
                add 1 4 0 9 = 5
                add 1 5 0 9 = 6
                exchange 1 0 250 = 2
                parentAnew 0 5 = LOST
                parentAnew 0 6 = 5
                parentAnew 1 5 = 4
                """);
        SAYS.hold("if there is no such master, or entry there", """
                delete 0 4 = 1
                add 1 0 0 9 = 5
                each 4 5 6 48 -1: parentAnew 0 # = noSuch
                each 6 48 -1: parentAnew 1 # = noSuch
                each -1 4: parentAnew # # = noSuch
                parentAnew 1 4 = 0
                """);
        SAYS.of("Promise 31", Preludes.FULL_TREE);
        SAYS.hold("`entry`: an entry", """
                each 1 47: parentAnew 3 # = 0
                each -1 LOST 48 64 MIN MAX: parentAnew 3 # = noSuch
                """);
        SAYS.of("Promise 31", Preludes.FULL_LOG);
        SAYS.hold("by doing all changes that the master knows", """
                parentAnew 0 3 = 2
                exchange 0 1 250 = 250
                parentAnew 1 3 = 2
                """);
    }

    private static void nameOf() {
        SAYS.of("Promise 32", Preludes.TOLD);
        SAYS.hold("Returns the name with which an entry is shown", """
                nameOf 0 1 = 1
                rename 0 1 9 = 1
                nameOf 0 1 = 9
                nameOf 1 1 = 1
                add 1 0 0 9 = 5
                exchange 1 0 250 = 1
                nameOf 0 5 = 105
                nameOf 1 5 = 9
                """);
        SAYS.hold("`master`: 0 to 3", """
                each 0 3: nameOf # 3 = 3
                each -1 4 MIN MAX: nameOf # 0 = noSuch
                """);
        SAYS.hold("Returns the name.", """
                nameOf 0 0 = 0
                rename 0 1 0 = 1
                rename 0 2 99 = 2
                nameOf 0 1 = 0
                nameOf 0 2 = 99
                """);
        SAYS.hold("if there is no such master, or entry there", """
                delete 0 4 = 1
                add 1 0 0 9 = 5
                each 4 5 6 48 -1: nameOf 0 # = noSuch
                each 6 48 -1: nameOf 1 # = noSuch
                each -1 4: nameOf # # = noSuch
                nameOf 1 4 = 4
                """);
        SAYS.of("Promise 32", Preludes.FULL_TREE);
        SAYS.hold("`entry`: an entry", """
                for 0 47: nameOf 3 # = #
                each -1 LOST 48 64 MIN MAX: nameOf 3 # = noSuch
                """);
    }

    private static void valueAt() {
        SAYS.of("Promise 33", Preludes.TOLD + """
                each 999 0 500: addValue 0 1 0 #
                addValue 0 1 3 7 = 1
                addValue 0 2 0 1 = 1
                """);
        SAYS.hold("Returns a value of an entry", """
                valueAt 0 1 3 0 = 7
                valueAt 0 2 0 0 = 1
                valueAt 0 1 0 1 = 500
                """);
        SAYS.hold("`master`: 0 to 3", """
                exchange 0 3 250 = 5
                each 0 3: valueAt # 1 3 0 = 7
                each 1 2: valueAt # 1 3 0 = NONE
                each -1 4 MIN MAX: valueAt # 1 3 0 = noSuch
                """);
        SAYS.hold("its number", """
                valueAt 0 1 0 0 = 0
                valueAt 0 1 4 0 = NONE
                each -1 5 10 MIN MAX: valueAt 0 1 # 0 = noSuch
                """);
        SAYS.hold("from 0, by rising values", """
                valueAt 0 1 0 0 = 0
                valueAt 0 1 0 1 = 500
                valueAt 0 1 0 2 = 999
                each -1 MIN: valueAt 0 1 0 # = noSuch
                addValue 0 1 0 499 = 4
                valueAt 0 1 0 1 = 499
                valueAt 0 1 0 3 = 999
                """);
        SAYS.hold("Returns the value; NONE if it has not so many", """
                each 3 4 MAX: valueAt 0 1 0 # = NONE
                each 1 MAX: valueAt 0 1 3 # = NONE
                each 0 1: valueAt 0 1 1 # = NONE
                each 0 1: valueAt 0 4 0 # = NONE
                valueAt 0 0 0 0 = NONE
                removeValue 0 1 0 999 = 2
                valueAt 0 1 0 2 = NONE
                """);
        SAYS.hold("if there is no such master, entry there, or attribute, or index is below 0", """
                delete 0 4 = 1
                each -1 4: valueAt # 1 0 0 = noSuch
                each 4 5 48 -1: valueAt 0 # 0 0 = noSuch
                each -1 5: valueAt 0 1 # 0 = noSuch
                each -1 MIN: valueAt 0 1 0 # = noSuch
                each -1 MIN: valueAt 0 0 4 # = noSuch
                """);
        SAYS.of("Promise 33", Preludes.FULL_TREE + "each 1 47: addValue 3 # 9 999 = 1");
        SAYS.hold("`entry`: an entry", """
                valueAt 3 0 9 0 = NONE
                each 1 47: valueAt 3 # 9 0 = 999
                each 2 46: valueAt 3 # 9 0 = NONE
                each -1 LOST 48 64 MIN MAX: valueAt 3 # 9 0 = noSuch
                """);
    }

    private static void manyValues() {
        // The last entry, the last attribute and the last value, and those next to them.
        SAYS.of("Promise 33", Preludes.FULL_TREE + """
                for 0 9: addValue 0 47 # 999 = 1
                for 0 9: addValue 0 46 # 0 = 1
                addValue 0 1 0 0 = 1
                """);
        SAYS.hold("Returns a value of an entry", """
                for 0 9: valueAt 0 47 # 0 = 999
                for 0 9: valueAt 0 47 # 1 = NONE
                for 0 9: valueAt 0 46 # 0 = 0
                for 0 9: valueAt 0 46 # 1 = NONE
                valueAt 0 1 0 0 = 0
                valueAt 0 45 9 0 = NONE
                """);
    }

    private static void valuesAnew() {
        SAYS.of("Promise 34", Preludes.TOLD + """
                each 1 2 3: addValue 0 1 0 # = #
                addValue 0 1 3 7 = 1
                """);
        SAYS.hold("Returns how many values of an attribute an entry has, by doing all changes", """
                valuesAnew 0 1 0 = 3
                valuesAnew 0 1 3 = 1
                valuesAnew 1 1 0 = 0
                replace 1 1 0 5 = 0
                exchange 0 1 250 = 4
                -- the replacement comes behind the first one of the values
                valuesAnew 1 1 0 = 3
                valueAt 1 1 0 0 = 2
                valueAt 1 1 0 2 = 5
                valuesAnew 0 1 0 = 3
                """);
        SAYS.hold("`master`: 0 to 3", """
                exchange 0 3 250 = 4
                each 0 3: valuesAnew # 1 0 = 3
                each 1 2: valuesAnew # 1 0 = 0
                each -1 4 MIN MAX: valuesAnew # 1 0 = noSuch
                """);
        SAYS.hold("its number", """
                valuesAnew 0 1 0 = 3
                valuesAnew 0 1 4 = 0
                each -1 5 10 MIN MAX: valuesAnew 0 1 # = noSuch
                """);
        SAYS.hold("Returns how many.", """
                for 4 100: addValue 0 1 0 # = #
                valuesAnew 0 1 0 = 100
                replace 0 1 0 5 = 100
                valuesAnew 0 1 0 = 1
                removeValue 0 1 0 5 = 0
                valuesAnew 0 1 0 = 0
                """);
        SAYS.hold("if there is no such master, entry there, or attribute", """
                delete 0 4 = 1
                each -1 4: valuesAnew # 1 0 = noSuch
                each 4 5 48 -1: valuesAnew 0 # 0 = noSuch
                each -1 5: valuesAnew 0 1 # = noSuch
                """);
        SAYS.of("Promise 34", Preludes.FULL_TREE + "each 1 47: addValue 3 # 9 999 = 1");
        SAYS.hold("`entry`: an entry", """
                valuesAnew 3 0 9 = 0
                each 1 47: valuesAnew 3 # 9 = 1
                each 2 46: valuesAnew 3 # 9 = 0
                each -1 LOST 48 64 MIN MAX: valuesAnew 3 # 9 = noSuch
                """);
    }

    private static void linkOf() {
        SAYS.of("Promise 35", Preludes.TOLD);
        SAYS.hold("Returns the link of an entry", """
                linkOf 0 1 = NONE
                link 0 1 4 = NONE
                linkOf 0 1 = 4
                linkOf 1 1 = NONE
                linkOf 0 2 = NONE
                """);
        SAYS.hold("`master`: 0 to 3", """
                each 0 3: linkOf # 1 = NONE
                each -1 4 MIN MAX: linkOf # 0 = noSuch
                """);
        SAYS.hold("Returns NONE, an entry, live or not, or 100 and a master, together", """
                linkOf 0 0 = NONE
                link 0 1 0 = NONE
                linkOf 0 1 = 0
                link 0 1 4 = 0
                delete 0 4 = 1
                linkOf 0 1 = 4
                each 100 103: link 0 1 #
                linkOf 0 1 = 103
                link 0 1 100 = 103
                linkOf 0 1 = 100
                link 0 1 NONE = 100
                linkOf 0 1 = NONE
                """);
        SAYS.hold("if there is no such master, or entry there", """
                delete 0 4 = 1
                add 1 0 0 9 = 5
                each 4 5 6 48 -1: linkOf 0 # = noSuch
                each -1 4: linkOf # # = noSuch
                linkOf 1 4 = NONE
                """);
        SAYS.of("Promise 35", Preludes.FULL_TREE);
        SAYS.hold("`entry`: an entry", """
                link 3 47 46 = NONE
                link 3 1 47 = NONE
                linkOf 3 47 = 46
                linkOf 3 1 = 47
                linkOf 3 0 = NONE
                each -1 LOST 48 64 MIN MAX: linkOf 3 # = noSuch
                """);
    }

    private static void may() {
        SAYS.of("Promise 36", Preludes.TOLD);
        SAYS.hold("Tells whether a user has a right on an entry, by what a master shows", """
                rule 0 1 3 0 0 DENY = NOTHING
                rule 1 1 3 0 1 ALLOW = NOTHING
                may 0 3 1 0 = false
                may 0 3 1 1 = false
                may 1 3 1 0 = true
                may 1 3 1 1 = true
                -- whom the master serves does not matter
                serve 0 3 = 0
                may 0 4 1 0 = true
                may 0 0 1 1 = true
                """);
        SAYS.hold("`master`: 0 to 3", """
                each 0 3: may # 3 1 0 = true
                each -1 4 MIN MAX: may # 0 0 0 = noSuch
                """);
        SAYS.hold("`user`: 0 to 5", """
                may 0 0 1 1 = true
                may 0 5 1 1 = false
                rule 0 1 5 0 1 ALLOW = NOTHING
                may 0 5 1 1 = true
                may 0 1 1 1 = false
                each -1 6 MIN MAX: may 0 # 1 0 = noSuch
                """);
        SAYS.hold("`right`: 0 to read, 1 to write", """
                may 0 3 1 0 = true
                may 0 3 1 1 = false
                each -1 2 MIN MAX: may 0 0 1 # = noSuch
                """);
        SAYS.hold("Returns whether the user has", """
                rule 0 1 ALL 2 1 ALLOW = NOTHING
                rule 0 1 ALL 2 0 DENY = NOTHING
                each 0 1 5: may 0 # 1 1 = true
                each 1 5: may 0 # 1 0 = false
                may 0 0 1 0 = true
                """);
        SAYS.hold("if there is no such master, user, entry there, or right", """
                delete 0 4 = 1
                each -1 4: may # 0 0 0 = noSuch
                each -1 6: may 0 # 0 0 = noSuch
                each 4 5 48 -1: may 0 0 # 0 = noSuch
                each -1 2: may 0 0 0 # = noSuch
                """);
        SAYS.of("Promise 36", Preludes.FULL_TREE);
        SAYS.hold("`entry`: an entry", """
                rule 3 47 3 0 1 ALLOW = NOTHING
                may 3 3 47 1 = true
                may 3 3 46 1 = false
                may 3 3 0 1 = false
                each -1 LOST 48 64 MIN MAX: may 3 0 # 0 = noSuch
                """);
    }

    private static void childAt() {
        SAYS.of("Promise 37", Preludes.TOLD);
        SAYS.hold("Returns an entry that is shown at a place", """
                childAt 0 0 0 = 1
                childAt 0 0 1 = 4
                childAt 0 1 0 = 2
                delete 0 4 = 1
                childAt 0 0 1 = NONE
                childAt 1 0 1 = 4
                """);
        SAYS.hold("`master`: 0 to 3", """
                each 0 3: childAt # 2 0 = 3
                each -1 4 MIN MAX: childAt # 0 0 = noSuch
                """);
        SAYS.hold("`place`: an entry, or LOST", """
                childAt 0 LOST 0 = NONE
                childAt 0 3 0 = NONE
                each NONE -3 5 48 MIN MAX: childAt 0 # 0 = noSuch
                delete 0 4 = 1
                each 5 6: add 1 4 0 #
                exchange 1 0 250 = 2
                childAt 0 4 0 = noSuch
                childAt 0 LOST 0 = 5
                childAt 0 LOST 1 = 6
                childAt 0 LOST 2 = NONE
                """);
        SAYS.hold("from 0, by rising shown names", """
                each 50 0 99 2: add 0 0 0 #
                -- 5, 6, 7 and 8 have these names
                childAt 0 0 0 = 6
                childAt 0 0 1 = 1
                childAt 0 0 2 = 8
                childAt 0 0 3 = 4
                childAt 0 0 4 = 5
                childAt 0 0 5 = 7
                -- the one that clashes goes behind 99
                add 1 0 0 0 = 9
                exchange 1 0 250 = 1
                childAt 0 0 0 = 9
                childAt 0 0 5 = 7
                childAt 0 0 6 = 6
                """);
        SAYS.hold("Returns the entry; NONE if there are not so many", """
                each 2 3 MAX: childAt 0 0 # = NONE
                childAt 0 0 1 = 4
                each 0 MAX: childAt 0 4 # = NONE
                each 0 MAX: childAt 0 LOST # = NONE
                """);
        SAYS.hold("if there is no such master, or entry there, or index is below 0", """
                delete 0 4 = 1
                each -1 4: childAt # 0 0 = noSuch
                each -1 4: childAt # LOST 0 = noSuch
                each 4 5 NONE: childAt 0 # 0 = noSuch
                each -1 MIN: childAt 0 0 # = noSuch
                each -1 MIN: childAt 0 LOST # = noSuch
                """);
    }

    private static void manyChildren() {
        SAYS.of("Promise 37", Preludes.FULL_TREE);
        SAYS.hold("`place`: an entry, or LOST", """
                each 1 47: childAt 0 # 0 = NONE
                each 48 64: childAt 0 # 0 = noSuch
                """);
        SAYS.hold("NONE if there are not so many", """
                for 0 46: childAt 0 0 # = #+1
                childAt 0 0 47 = NONE
                delete 0 1 = 1
                childAt 0 0 45 = 47
                childAt 0 0 46 = NONE
                """);
    }
}
