/** The sentences of the terms that tell what a master has: schema, entries, and what changes do. */
final class TermsOfEntriesTest {
    private static final Sentences SAYS = new Sentences();

    private TermsOfEntriesTest() {
    }

    public static void main(String[] args) {
        asked();
        numbersOfTheSchema();
        matches();
        classes();
        inheritance();
        entries();
        root();
        rules();
        subjects();
        operationsMakeChanges();
        stamps();
        orderOfChanges();
        knowing();
        additions();
        valueChanges();
        lastOnes();
        moves();
        deletions();
        whicheverWasFirst();
        orphans();
        clashes();
        clashesByOrder();
        incompleteOnes();
        SAYS.end("TermsOfEntriesTest");
    }

    private static void asked() {
        SAYS.of("Terms", Preludes.TOLD);
        SAYS.hold("are asked, which changes nothing but what the last search has found", """
                rule 0 4 3 0 0 DENY = NOTHING
                ofClass 0 = 1
                search 0 1 2 = 3
                each 1 2: childAt 0 0 0 = 1
                each 1 2: valueAt 0 1 0 0 = NONE
                each 1 2: may 0 3 4 0 = false
                each 1 2: conflicts 0 0 = 0
                each 1 2: searchByWalk 0 0 2 = 4
                found 2 = 3
                each 1 2: search 0 4 0 = 1
                found 0 = 4
                found 1 = noSuch
                each 1 2: follow 1 0 1 = 2
                found 1 = 104
                knows 0 0 = 5
                knows 1 1 = 0
                live 0 = 5
                undraft = 0
                wipe = 1
                """);
    }

    private static void numbersOfTheSchema() {
        SAYS.of("Schema", "");
        SAYS.hold("There are the masters 0 to 3", """
                each 0 1 2 3: live # = 1
                each -1 4 MIN MAX: live # = noSuch
                """);
        SAYS.hold("the users 0 to 5", """
                each 0 1 2 3 4 5: may 0 # 0 0 = true
                each -1 6 MIN MAX: may 0 # 0 0 = noSuch
                """);
        SAYS.hold("Attributes are numbered from 0 on, at most 10", """
                has 0 = noSuch
                for 0 9: attribute false false = #
                attribute false false = notTaken
                for 0 7: has # = #+1
                wipe = 8
                each 8 9: has # = #-7
                each -1 10 MIN MAX: has # = noSuch
                """);
        SAYS.hold("an attribute is single or not, and exact or by tens", Preludes.SCHEMA + """
                add 0 0 0 1 = 1
                for 0 3: addValue 0 1 # 20 = 1
                -- one that matches by tens alone, and one that does not match
                addValue 0 1 0 21 = 2
                addValue 0 1 0 30 = 3
                addValue 0 1 1 21 = notTaken
                addValue 0 1 1 30 = 2
                each 21 30: addValue 0 1 2 # = notTaken
                each 21 30: addValue 0 1 3 # = notTaken
                -- by what the values of the single ones match
                removeValue 0 1 2 21 = notTaken
                removeValue 0 1 3 21 = 0
                """);
        SAYS.hold("Values are 0 to 999", Preludes.SCHEMA + """
                each 0 999: draft 0 #
                each -1 1000 MIN MAX: draft 0 # = outOfRange
                undraft = 2
                """);
    }

    private static void matches() {
        SAYS.of("Schema", Preludes.SCHEMA + "add 0 0 0 1 = 1");
        SAYS.hold("Two values of an attribute match, if they are alike", """
                addValue 0 1 0 500 = 1
                addValue 0 1 0 500 = notTaken
                addValue 0 1 0 499 = 2
                addValue 0 1 0 501 = 3
                equal 0 498 = 1
                search 0 0 2 = 0
                wipe = 1
                equal 0 499 = 1
                search 0 0 2 = 1
                """);
        SAYS.hold("if it is by tens, if they divided by 10", """
                addValue 0 1 1 45 = 1
                each 40 44 45 46 49: addValue 0 1 1 # = notTaken
                addValue 0 1 1 39 = 2
                addValue 0 1 1 50 = 3
                removeValue 0 1 1 59 = 2
                removeValue 0 1 1 30 = 1
                """);
        SAYS.hold("if they divided by 10, rounded down, are", """
                -- the first ten and the last one
                addValue 0 1 1 0 = 1
                addValue 0 1 1 9 = notTaken
                addValue 0 1 1 10 = 2
                addValue 0 1 1 999 = 3
                addValue 0 1 1 990 = notTaken
                addValue 0 1 1 989 = 4
                removeValue 0 1 1 990 = 3
                removeValue 0 1 1 9 = 2
                valueAt 0 1 1 0 = 10
                valueAt 0 1 1 1 = 989
                """);
        SAYS.hold("The key of a value is the value", """
                addValue 0 1 0 29 = 1
                atLeast 0 29 = 1
                search 0 0 2 = 1
                wipe = 1
                atLeast 0 30 = 1
                search 0 0 2 = 0
                """);
        SAYS.hold("or, by tens, the value divided by 10, rounded down", """
                addValue 0 1 1 20 = 1
                atLeast 1 29 = 1
                search 0 0 2 = 1
                wipe = 1
                atLeast 1 30 = 1
                search 0 0 2 = 0
                replace 0 1 1 0 = 1
                wipe = 1
                atLeast 1 9 = 1
                search 0 0 2 = 1
                wipe = 1
                atLeast 1 10 = 1
                search 0 0 2 = 0
                replace 0 1 1 990 = 1
                wipe = 1
                atLeast 1 999 = 1
                search 0 0 2 = 1
                """);
    }

    private static void classes() {
        SAYS.of("Schema", "");
        SAYS.hold("Classes are numbered from 0 on, at most 8", """
                ofClass 0 = noSuch
                for 0 7: objectClass NONE 0 0 = #
                objectClass NONE 0 0 = notTaken
                for 0 7: ofClass # = #+1
                each -1 8 MIN MAX: ofClass # = noSuch
                """);
        SAYS.hold("A class can have a parent, with a lesser number", """
                objectClass 0 0 0 = noSuch
                objectClass NONE 0 0 = 0
                objectClass 1 0 0 = noSuch
                objectClass 0 0 0 = 1
                for 2 6: objectClass # 0 0 = noSuch
                for 2 6: objectClass 0 0 0 = #
                objectClass 7 0 0 = noSuch
                objectClass 6 0 0 = 7
                """);
        SAYS.hold("It requires some attributes, and allows some", """
                for 0 9: attribute false false = #
                -- none, the last one alone, and all
                objectClass NONE 0 0 = 0
                objectClass NONE 512 0 = 1
                objectClass NONE 0 512 = 2
                objectClass NONE 1023 1023 = 3
                add 0 0 0 1 = 1
                addValue 0 1 9 0 = notTaken
                add 0 0 1 2 = notTaken
                add 0 0 2 2 = 2
                addValue 0 2 9 0 = 1
                addValue 0 2 8 0 = notTaken
                for 0 8: draft # 0 = #+1
                add 0 0 3 3 = notTaken
                draft 9 0 = 10
                add 0 0 3 3 = 3
                """);
    }

    private static void inheritance() {
        SAYS.of("Schema", """
                for 0 3: attribute false false = #
                objectClass NONE 1 2 = 0
                for 1 6: objectClass #-1 0 0 = #
                objectClass 6 4 0 = 7
                """);
        SAYS.hold("What is required by a class: what it requires itself", """
                draft 0 1 = 1
                add 0 0 7 1 = notTaken
                draft 2 1 = 2
                add 0 0 7 1 = 1
                removeValue 0 1 2 1 = notTaken
                """);
        SAYS.hold("and what is required by its parent;", """
                -- over seven parents
                draft 2 1 = 1
                add 0 0 7 1 = notTaken
                draft 0 1 = 2
                add 0 0 7 1 = 1
                removeValue 0 1 0 1 = notTaken
                -- what a class requires is not required by its parent
                draft 0 1 = 1
                add 0 0 6 2 = 2
                """);
        SAYS.hold("what is allowed by it: what it requires or allows itself", """
                draft 0 1 = 1
                add 0 0 0 1 = 1
                addValue 0 1 0 2 = 2
                addValue 0 1 1 2 = 1
                addValue 0 1 3 2 = notTaken
                -- what a class allows is not allowed by its parent
                addValue 0 1 2 2 = notTaken
                """);
        SAYS.hold("and what is allowed by its parent.", """
                draft 0 1 = 1
                draft 2 1 = 2
                add 0 0 7 1 = 1
                -- what the first one of its parents allows, and what that requires
                addValue 0 1 1 2 = 1
                addValue 0 1 0 2 = 2
                addValue 0 1 3 2 = notTaken
                """);
        SAYS.hold("All masters know attributes and classes at once", """
                draft 0 1 = 1
                draft 2 1 = 2
                add 3 0 7 1 = 1
                attribute false false = 4
                equal 4 0 = 1
                wipe = 1
                equal 0 1 = 1
                search 3 0 2 = 1
                exchange 3 1 250 = 1
                search 1 0 2 = 1
                """);
    }

    private static void entries() {
        SAYS.of("Entries", Preludes.SCHEMA);
        SAYS.hold("Entries are numbered from 0 on over all masters, at most 48", """
                add 0 0 0 1 = 1
                add 3 0 0 1 = 2
                add 1 0 0 1 = 3
                for 4 46: add 2 0 0 # = #
                add 0 0 0 47 = 47
                each 0 1 2 3: add # 0 0 99 = notTaken
                live 0 = 3
                live 2 = 44
                each 48 49: nameOf 0 # = noSuch
                """);
        SAYS.hold("Each other one has a class, a parent, a name, 0 to 99, values", """
                draft 0 7 = 1
                add 0 0 1 99 = 1
                add 0 1 0 0 = 2
                add 0 1 0 100 = outOfRange
                add 0 1 0 -1 = outOfRange
                nameOf 0 1 = 99
                nameOf 0 2 = 0
                parentOf 0 1 = 0
                parentOf 0 2 = 1
                valueAt 0 1 0 0 = 7
                valueAt 0 2 0 0 = NONE
                ofClass 1 = 1
                search 0 0 2 = 1
                found 0 = 1
                """);
        SAYS.hold("and a link: none, an alias, which tells another entry, or a referral, which tells a master", """
                add 0 0 0 1 = 1
                add 0 0 0 2 = 2
                linkOf 0 1 = NONE
                link 0 1 2 = NONE
                linkOf 0 1 = 2
                link 0 1 1 = notTaken
                link 0 1 100 = 2
                link 0 1 103 = 100
                link 0 1 104 = noSuch
                link 0 1 99 = noSuch
                linkOf 0 1 = 103
                """);
    }

    private static void root() {
        SAYS.of("Entries", Preludes.TREE);
        SAYS.hold("The entry 0 is the root; all masters have it from the first on", """
                each 0 1 2 3: nameOf # 0 = 0
                each 1 2 3: live # = 1
                each 1 2 3: childAt # 0 0 = NONE
                """);
        SAYS.hold("it has no class, no parent, the name 0 and no values", """
                for 0 2: ofClass # = #+1
                combine false = 2
                combine false = 1
                search 0 0 0 = 0
                wipe = 5
                parentOf 0 0 = NONE
                parentAnew 0 0 = NONE
                nameOf 0 0 = 0
                linkOf 0 0 = NONE
                for 0 4: valueAt 0 0 # 0 = NONE
                for 0 4: valuesAnew 0 0 # = 0
                -- so it has no siblings, and clashes with none of this name
                add 0 0 0 0 = 5
                nameOf 0 5 = 0
                nameOf 0 0 = 0
                """);
        SAYS.hold("and cannot be changed but by rules", """
                addValue 0 0 0 5 = noSuch
                removeValue 0 0 0 5 = noSuch
                replace 0 0 0 5 = noSuch
                rename 0 0 9 = noSuch
                move 0 0 1 = noSuch
                delete 0 0 = noSuch
                each NONE 1 100: link 0 0 # = noSuch
                knows 0 0 = 4
                rule 0 0 3 0 0 DENY = NOTHING
                may 0 3 0 0 = false
                knows 0 0 = 5
                """);
    }

    private static void rules() {
        SAYS.of("Entries", Preludes.TREE);
        SAYS.hold("it allows, denies, or says nothing, as all do at first", """
                each ALL 0 5 100 104: rule 0 0 # 0 0 NOTHING = NOTHING
                each 0 1 2: rule 0 4 3 # 1 NOTHING = NOTHING
                may 0 3 4 1 = false
                rule 0 4 3 0 1 ALLOW = NOTHING
                may 0 3 4 1 = true
                rule 0 4 3 0 1 DENY = ALLOW
                may 0 3 4 1 = false
                rule 0 4 3 0 1 NOTHING = DENY
                may 0 3 4 0 = true
                """);
        SAYS.hold("A rule is of an entry, for a subject, with a scope and a right", """
                -- a rule that differs in one of these is another one
                rule 0 1 3 0 0 DENY = NOTHING
                rule 0 2 3 0 0 NOTHING = NOTHING
                rule 0 1 4 0 0 NOTHING = NOTHING
                rule 0 1 3 1 0 NOTHING = NOTHING
                rule 0 1 3 2 0 NOTHING = NOTHING
                rule 0 1 3 0 1 NOTHING = NOTHING
                rule 0 1 3 0 0 DENY = DENY
                """);
        SAYS.hold("with a scope and a right: it allows, denies, or says nothing", """
                for 0 4: rule 0 # 3 0 1 ALLOW = NOTHING
                for 0 4: rule 0 # 3 1 0 NOTHING = NOTHING
                for 0 4: rule 0 # 3 0 0 DENY = NOTHING
                for 0 4: rule 0 # 3 2 1 ALLOW = NOTHING
                for 0 4: rule 0 # 3 1 1 NOTHING = NOTHING
                for 0 4: rule 0 # 3 2 0 DENY = NOTHING
                for 0 4: rule 0 # 3 1 0 ALLOW = NOTHING
                for 0 4: rule 0 # 3 1 1 DENY = NOTHING
                for 0 4: rule 0 # 3 0 0 NOTHING = DENY
                for 0 4: rule 0 # 3 0 1 NOTHING = ALLOW
                for 0 4: rule 0 # 3 1 0 NOTHING = ALLOW
                for 0 4: rule 0 # 3 1 1 NOTHING = DENY
                for 0 4: rule 0 # 3 2 0 NOTHING = DENY
                for 0 4: rule 0 # 3 2 1 NOTHING = ALLOW
                """);
        SAYS.hold("A subject is a user, a group, which is an entry, or everybody", """
                each 0 5: rule 0 0 # 0 0 ALLOW = NOTHING
                each 100 104: rule 0 0 # 0 0 ALLOW = NOTHING
                rule 0 0 ALL 0 0 ALLOW = NOTHING
                each -2 6 99 105 148 MIN MAX: rule 0 0 # 0 0 ALLOW = noSuch
                """);
        SAYS.hold("scopes are 0 the entry itself, 1 its children, 2 itself and all that is beneath it", """
                each -1 3: rule 0 1 3 # 1 ALLOW = noSuch
                rule 0 1 3 0 1 ALLOW = NOTHING
                may 0 3 0 1 = false
                may 0 3 1 1 = true
                may 0 3 2 1 = false
                rule 0 1 3 0 1 NOTHING = ALLOW
                rule 0 1 3 1 1 ALLOW = NOTHING
                may 0 3 1 1 = false
                may 0 3 2 1 = true
                may 0 3 3 1 = false
                rule 0 1 3 1 1 NOTHING = ALLOW
                rule 0 1 3 2 1 ALLOW = NOTHING
                may 0 3 0 1 = false
                for 1 3: may 0 3 # 1 = true
                may 0 3 4 1 = false
                """);
        SAYS.hold("rights are 0 to read and 1 to write", """
                each -1 2: rule 0 1 3 0 # DENY = noSuch
                rule 0 1 3 0 0 DENY = NOTHING
                rule 0 1 3 0 1 ALLOW = NOTHING
                serve 0 3 = 0
                rename 0 1 9 = 1
                equal 0 0 = 1
                not = 1
                search 0 1 0 = 0
                """);
    }

    private static void subjects() {
        SAYS.of("Entries", Preludes.FULL_TREE);
        SAYS.hold("A subject is a user, a group, which is an entry, or everybody", """
                -- each one is another one
                rule 0 1 ALL 0 0 DENY = NOTHING
                for 100 147: rule 0 1 # 0 0 NOTHING = NOTHING
                for 0 5: rule 0 1 # 0 0 NOTHING = NOTHING
                for 100 147: rule 0 2 # 0 0 ALLOW = NOTHING
                for 0 5: rule 0 2 # 0 0 DENY = NOTHING
                rule 0 2 ALL 0 0 DENY = NOTHING
                for 100 147: rule 0 2 # 0 0 ALLOW = ALLOW
                for 0 5: rule 0 2 # 0 0 DENY = DENY
                """);
    }

    private static void operationsMakeChanges() {
        SAYS.of("Changes", Preludes.TREE);
        SAYS.hold("An operation that a master takes makes a change", """
                knows 0 0 = 4
                addValue 0 1 0 5 = 1
                knows 0 0 = 5
                removeValue 0 1 0 5 = 0
                knows 0 0 = 6
                replace 0 1 0 5 = 0
                rename 0 1 9 = 1
                move 0 2 4 = 1
                link 0 1 4 = NONE
                rule 0 1 3 0 0 DENY = NOTHING
                delete 0 3 = 1
                knows 0 0 = 12
                each 1 2 3: knows # # = 0
                """);
        SAYS.hold("An operation that a master takes", """
                -- also one after which all is as it was
                addValue 0 1 0 5 = 1
                replace 0 1 0 5 = 1
                knows 0 0 = 6
                rename 0 1 1 = 1
                knows 0 0 = 7
                move 0 1 0 = 0
                knows 0 0 = 8
                link 0 1 NONE = NONE
                knows 0 0 = 9
                rule 0 1 3 0 0 NOTHING = NOTHING
                knows 0 0 = 10
                -- and none that is not taken, nor another call
                rename 0 1 4 = notTaken
                serve 0 3 = 0
                rename 0 1 9 = notTaken
                draft 0 1 = 1
                sweep 0 = 0
                exchange 0 1 250 = 10
                knows 0 0 = 10
                knows 1 1 = 0
                """);
    }

    private static void stamps() {
        SAYS.of("Changes", Preludes.SCHEMA);
        SAYS.hold("(1 for the first one)", """
                -- the stamp 1 of the master 3 was made first, that of the master 0 comes first
                add 3 0 0 7 = 1
                add 0 0 0 7 = 2
                exchange 3 0 250 = 1
                nameOf 0 2 = 7
                nameOf 0 1 = 101
                """);
        SAYS.hold("1 more than the greatest stamp of all changes that this master knows", """
                -- 0, 2 and 3 make the stamps 1 to 3 each, and 1 gets those of 0: the next stamps are 4
                for 1 3: add 0 0 0 # = #
                for 4 6: add 2 0 0 # = #
                for 7 9: add 3 0 0 # = #
                exchange 0 1 250 = 3
                add 3 0 0 50 = 10
                add 2 0 0 50 = 11
                add 1 0 0 50 = 12
                add 0 0 0 50 = 13
                exchange 1 0 250 = 1
                exchange 2 0 250 = 4
                exchange 3 0 250 = 4
                nameOf 0 13 = 50
                delete 0 13 = 1
                nameOf 0 12 = 50
                delete 0 12 = 2
                nameOf 0 11 = 50
                nameOf 0 10 = 110
                """);
        SAYS.hold("greatest stamp of all changes", """
                -- not as many as are known: 0 knows three changes with the stamp 1, its next one has 2
                add 0 0 0 1 = 1
                add 2 0 0 2 = 2
                add 3 0 0 3 = 3
                exchange 2 0 250 = 1
                exchange 3 0 250 = 1
                for 4 5: add 1 0 0 # = #
                add 1 0 0 50 = 6
                add 0 0 0 50 = 7
                exchange 1 0 250 = 3
                nameOf 0 7 = 50
                nameOf 0 6 = 106
                """);
        SAYS.hold("that this master knows", """
                -- of three changes one is got, so the next stamp is 2, as is that of the second one of the master 0
                for 1 3: add 0 0 0 # = #
                exchange 0 1 1 = 1
                rename 0 2 70 = 2
                add 1 0 0 2 = 4
                add 1 0 0 3 = 5
                exchange 1 0 250 = 2
                -- 2 has 2,0 and 4 has 2,1; 3 has 3,0 and 5 has 3,1
                rename 0 4 70 = notTaken
                nameOf 0 4 = 2
                nameOf 0 3 = 3
                nameOf 0 5 = 105
                """);
        SAYS.hold("and its master", """
                -- who made a change stays with it, whoever passes it on
                add 0 0 0 7 = 1
                add 1 0 0 7 = 2
                exchange 0 3 250 = 1
                exchange 1 2 250 = 1
                exchange 3 2 250 = 1
                knows 2 0 = 1
                knows 2 1 = 1
                knows 2 3 = 0
                nameOf 2 1 = 7
                nameOf 2 2 = 102
                """);
    }

    private static void orderOfChanges() {
        SAYS.of("Changes", Preludes.TOLD);
        SAYS.hold("Changes are in order by their stamps", """
                -- the master 3 has the stamp 5, the master 0 the stamps 5 and 6
                rename 0 4 20 = 4
                rename 0 4 21 = 20
                rename 3 4 30 = 4
                exchange 3 0 250 = 1
                nameOf 0 4 = 21
                exchange 0 3 250 = 2
                nameOf 3 4 = 21
                """);
        SAYS.hold("those with the same stamp by their masters", """
                rename 3 4 30 = 4
                rename 2 4 20 = 4
                rename 1 4 10 = 4
                rename 0 4 40 = 4
                exchange 1 0 250 = 1
                nameOf 0 4 = 10
                exchange 3 0 250 = 1
                nameOf 0 4 = 30
                exchange 2 0 250 = 1
                nameOf 0 4 = 30
                """);
        SAYS.hold("At most 250 changes are made", """
                for 5 125: link 0 1 100
                for 126 249: link 1 1 101
                knows 0 0 = 125
                knows 1 1 = 124
                rename 2 1 9 = 1
                each 0 1 2 3: rename # 1 10 = notTaken
                exchange 0 3 250 = 121
                exchange 1 3 250 = 124
                exchange 2 3 250 = 1
                nameOf 3 1 = 9
                rename 3 1 10 = notTaken
                """);
    }

    private static void knowing() {
        SAYS.of("Changes", Preludes.TREE);
        SAYS.hold("A master knows its own changes, and those that it got from others", """
                knows 0 0 = 4
                knows 1 0 = 0
                nameOf 1 1 = noSuch
                exchange 0 1 3 = 3
                knows 1 0 = 3
                nameOf 1 3 = 3
                nameOf 1 4 = noSuch
                add 1 3 0 8 = 5
                knows 1 1 = 1
                knows 0 1 = 0
                nameOf 0 5 = noSuch
                exchange 1 2 250 = 4
                knows 2 0 = 3
                knows 2 1 = 1
                nameOf 2 5 = 8
                """);
    }

    private static void additions() {
        SAYS.of("Changes", Preludes.SCHEMA);
        SAYS.hold("Kinds of changes, with what they do when they are done one after the other, in this order", """
                -- a move, got late, is done ahead of one that was known, and this does what it did not do ahead
                for 1 2: add 0 0 0 # = #
                exchange 0 1 250 = 2
                move 1 1 2 = 0
                move 0 2 1 = 0
                exchange 0 1 250 = 1
                parentOf 1 2 = 1
                parentOf 1 1 = 0
                """);
        SAYS.hold("ADD: the entry is there, with its class, parent and name", """
                draft 0 5 = 1
                add 0 0 1 99 = 1
                add 0 1 0 0 = 2
                exchange 0 3 250 = 2
                parentOf 3 1 = 0
                parentOf 3 2 = 1
                nameOf 3 1 = 99
                nameOf 3 2 = 0
                linkOf 3 1 = NONE
                ofClass 1 = 1
                search 3 0 2 = 1
                found 0 = 301
                """);
        SAYS.hold("and the values come as by VALUE, one after the other", """
                -- none, and as many as can be drafted
                add 0 0 0 1 = 1
                draft 2 7 = 1
                draft 3 9 = 2
                for 3 12: draft 0 # = #
                add 0 0 0 2 = 2
                exchange 0 1 250 = 2
                for 0 3: valuesAnew 1 1 # = 0
                valuesAnew 1 2 0 = 10
                for 0 9: valueAt 1 2 0 # = #+3
                valueAt 1 2 2 0 = 7
                valueAt 1 2 3 0 = 9
                """);
    }

    private static void valueChanges() {
        SAYS.of("Changes", Preludes.TOLD);
        SAYS.hold("VALUE of an attribute: if it is single, its values go", """
                addValue 0 1 2 7 = 1
                addValue 1 1 2 500 = 1
                addValue 0 1 3 7 = 1
                addValue 1 1 3 500 = 1
                exchange 0 1 250 = 2
                exchange 1 0 250 = 2
                each 0 1: valueAt # 1 2 0 = 500
                each 0 1: valuesAnew # 1 2 = 1
                each 0 1: valueAt # 1 3 0 = 500
                each 0 1: valuesAnew # 1 3 = 1
                """);
        SAYS.hold("if it is single, its values go", """
                -- the least and the greatest value, and none of the attributes beside it
                each 1 4: addValue 0 # 1 999 = 1
                each 1 4: addValue 0 # 3 0 = 1
                exchange 0 1 250 = 4
                addValue 0 1 2 0 = 1
                addValue 0 4 2 999 = 1
                each 1 4: addValue 1 # 2 500 = 1
                exchange 0 1 250 = 2
                each 1 4: valueAt 1 # 2 0 = 500
                each 1 4: valuesAnew 1 # 2 = 1
                each 1 4: valueAt 1 # 1 0 = 999
                each 1 4: valueAt 1 # 3 0 = 0
                """);
        SAYS.hold("otherwise those that match the value go", """
                addValue 0 1 1 40 = 1
                addValue 0 1 1 39 = 2
                addValue 0 1 1 50 = 3
                addValue 1 1 1 60 = 1
                addValue 1 1 1 70 = 2
                addValue 1 1 1 49 = 3
                exchange 0 1 250 = 3
                valuesAnew 1 1 1 = 5
                valueAt 1 1 1 0 = 39
                valueAt 1 1 1 1 = 49
                valueAt 1 1 1 2 = 50
                """);
        SAYS.hold("then the value comes", """
                -- the same value from two masters is there once
                addValue 0 1 0 999 = 1
                addValue 1 1 0 999 = 1
                addValue 0 1 0 0 = 2
                exchange 0 1 250 = 2
                valueAt 1 1 0 0 = 0
                valueAt 1 1 0 1 = 999
                valueAt 1 1 0 2 = NONE
                valuesAnew 1 1 0 = 2
                """);
        SAYS.hold("REMOVE of a value: those that match it go", """
                addValue 0 1 1 40 = 1
                addValue 0 1 1 39 = 2
                addValue 0 1 1 50 = 3
                exchange 0 1 250 = 3
                -- what matches is another value by then, and the removal takes that one
                replace 0 1 1 41 = 3
                addValue 0 1 1 39 = 2
                removeValue 1 1 1 50 = 2
                removeValue 1 1 1 39 = 1
                removeValue 1 1 1 49 = 0
                exchange 1 0 250 = 3
                valuesAnew 0 1 1 = 0
                """);
        SAYS.hold("those that match it go.", """
                -- no other value goes, and none has to be there
                addValue 0 1 0 5 = 1
                addValue 0 1 0 4 = 2
                addValue 0 1 0 6 = 3
                exchange 0 1 250 = 3
                removeValue 0 1 0 5 = 2
                removeValue 1 1 0 5 = 2
                exchange 1 0 250 = 1
                valueAt 0 1 0 0 = 4
                valueAt 0 1 0 1 = 6
                valuesAnew 0 1 0 = 2
                """);
        SAYS.hold("REPLACE of an attribute by a value: all values of it go, and this one comes", """
                addValue 0 1 0 0 = 1
                addValue 0 1 0 999 = 2
                addValue 0 1 1 0 = 1
                addValue 0 2 0 0 = 1
                replace 1 1 0 3 = 0
                replace 1 1 0 4 = 1
                replace 1 1 0 5 = 1
                -- ahead in order are the values of the master 0 with the stamps 5 and 6, not the one with 8
                exchange 0 1 250 = 4
                addValue 0 1 0 7 = 3
                valueAt 1 1 0 0 = 5
                valueAt 1 1 0 1 = NONE
                valueAt 1 1 1 0 = 0
                valueAt 1 2 0 0 = 0
                exchange 0 1 250 = 1
                valueAt 1 1 0 0 = 5
                valueAt 1 1 0 1 = 7
                """);
    }

    private static void lastOnes() {
        SAYS.of("Changes", Preludes.TOLD);
        SAYS.hold("NAME: the entry has the name", """
                rename 0 1 0 = 1
                rename 1 1 99 = 1
                exchange 1 0 250 = 1
                nameOf 0 1 = 99
                exchange 0 1 250 = 1
                nameOf 1 1 = 99
                """);
        SAYS.hold("LINK: it has the link", """
                link 0 1 4 = NONE
                link 1 1 103 = NONE
                exchange 1 0 250 = 1
                linkOf 0 1 = 103
                link 0 1 NONE = 103
                exchange 0 1 250 = 2
                linkOf 1 1 = NONE
                """);
        SAYS.hold("RULE: the rule says what is told", """
                rule 0 1 3 0 0 DENY = NOTHING
                rule 1 1 3 0 0 ALLOW = NOTHING
                rule 0 1 3 2 0 DENY = NOTHING
                rule 1 1 3 2 0 NOTHING = NOTHING
                exchange 1 0 250 = 2
                may 0 3 1 0 = true
                rule 0 1 3 0 0 NOTHING = ALLOW
                rule 0 1 3 2 0 NOTHING = NOTHING
                exchange 0 1 250 = 4
                rule 1 1 3 0 0 NOTHING = NOTHING
                """);
    }

    private static void moves() {
        SAYS.of("Changes", Preludes.TOLD);
        SAYS.hold("MOVE: the entry has the parent", """
                move 0 3 4 = 2
                move 1 3 0 = 2
                exchange 1 0 250 = 1
                parentOf 0 3 = 0
                parentAnew 0 3 = 0
                move 0 3 1 = 0
                exchange 0 1 250 = 2
                parentOf 1 3 = 1
                """);
        SAYS.hold("but the change does nothing, if this parent is the entry itself", """
                each 1 2 3 4: move 0 # # = notTaken
                """);
        SAYS.hold("or one comes to the entry from it", """
                -- a ring of two, one of three over three masters, and one of all that there are
                move 0 1 4 = 0
                move 1 4 1 = 0
                exchange 1 0 250 = 1
                exchange 0 1 250 = 1
                each 0 1: parentOf # 1 = 4
                each 0 1: parentOf # 4 = 0
                each 0 1: parentAnew # 4 = 0
                """);
        SAYS.hold("going from parents to parents", """
                -- 1 has 2, which has 3: a ring over three parents
                move 0 4 3 = 0
                move 1 1 4 = 0
                move 2 2 0 = 1
                exchange 0 1 250 = 1
                parentOf 1 4 = 3
                parentOf 1 1 = 0
                -- the move of the master 2 comes last, and does not help the one ahead of it
                exchange 2 1 250 = 1
                parentOf 1 2 = 0
                parentOf 1 1 = 0
                -- what comes behind a change that did nothing is done
                move 1 1 4 = 0
                parentOf 1 1 = 4
                parentAnew 1 1 = 4
                """);
        SAYS.hold("deleted ones too", """
                -- 4 goes beneath 3, which is deleted; from 4 one comes over 3 and 2 to 1
                move 0 4 3 = 0
                delete 1 3 = 1
                move 1 1 4 = 0
                exchange 1 0 250 = 2
                parentOf 0 1 = 0
                parentOf 0 4 = LOST
                parentAnew 0 1 = 0
                parentAnew 0 4 = LOST
                exchange 0 1 250 = 1
                areAlike 0 1 = true
                """);
    }

    private static void deletions() {
        SAYS.of("Changes", Preludes.TOLD);
        SAYS.hold("DELETE: the entry is deleted for ever", """
                delete 0 4 = 1
                -- what other masters still do to it does not bring it back
                rename 1 4 50 = 4
                move 1 4 1 = 0
                addValue 1 4 0 5 = 1
                link 1 4 1 = NONE
                rule 1 4 3 0 0 DENY = NOTHING
                exchange 1 0 250 = 5
                nameOf 0 4 = noSuch
                live 0 = 4
                childAt 0 1 1 = NONE
                exchange 0 1 250 = 1
                nameOf 1 4 = noSuch
                each 0 1: sweep # = 0
                exchange 0 2 250 = 6
                exchange 0 3 250 = 6
                sweep 0 = 1
                nameOf 0 4 = noSuch
                -- nor is its number given again
                add 0 0 0 4 = 5
                """);
        SAYS.hold("An entry is live at a master, if that knows its ADD, and no DELETE of it", """
                delete 0 4 = 1
                nameOf 0 4 = noSuch
                nameOf 1 4 = 4
                add 0 0 0 5 = 5
                live 0 = 5
                nameOf 1 5 = noSuch
                live 1 = 5
                exchange 0 1 1 = 1
                nameOf 1 4 = noSuch
                live 1 = 4
                exchange 0 1 1 = 1
                nameOf 1 5 = 5
                live 1 = 5
                """);
        SAYS.hold("the root always is", """
                each 0 1 2 3: delete # 0 = noSuch
                delete 0 4 = 1
                delete 0 3 = 2
                delete 0 2 = 3
                delete 0 1 = 4
                live 0 = 1
                nameOf 0 0 = 0
                """);
    }

    private static void whicheverWasFirst() {
        SAYS.of("Changes", Preludes.TOLD);
        SAYS.hold("What a master shows is what the changes that it knows do so, whichever it got first", """
                rename 0 1 20 = 1
                rename 1 4 20 = 4
                rename 2 1 30 = 1
                move 0 4 3 = 0
                move 1 1 4 = 0
                replace 2 1 0 5 = 0
                addValue 0 1 0 6 = 1
                delete 3 3 = 1
                exchange 1 0 250 = 2
                exchange 2 0 250 = 2
                exchange 3 0 250 = 1
                exchange 3 1 250 = 1
                exchange 2 1 250 = 2
                exchange 0 1 250 = 3
                exchange 1 3 1 = 1
                exchange 0 3 2 = 2
                exchange 1 3 250 = 4
                each 1 3: areAlike 0 # = true
                each 0 1 3: parentOf # 4 = LOST
                each 0 1 3: parentOf # 1 = 0
                each 0 1 3: nameOf # 1 = 30
                each 0 1 3: valueAt # 1 0 0 = 5
                each 0 1 3: valueAt # 1 0 1 = 6
                """);
    }

    private static void orphans() {
        SAYS.of("Changes", Preludes.TOLD + """
                add 1 3 0 7 = 5
                add 1 5 0 8 = 6
                delete 0 3 = 1
                """);
        SAYS.hold("A live entry whose parent is deleted is an orphan", """
                conflicts 0 1 = 0
                exchange 1 0 250 = 2
                conflicts 0 1 = 1
                parentOf 0 5 = LOST
                -- the one beneath it is none
                parentOf 0 6 = 5
                conflicts 1 1 = 0
                parentOf 1 5 = 3
                -- a deleted one is none
                delete 0 6 = 2
                delete 0 5 = 3
                conflicts 0 1 = 0
                childAt 0 LOST 0 = NONE
                """);
        SAYS.hold("it is shown at LOST, a place beside the tree, instead of that parent", """
                exchange 1 0 250 = 2
                childAt 0 LOST 0 = 5
                childAt 0 LOST 1 = NONE
                childAt 0 3 0 = noSuch
                childAt 0 0 1 = 4
                childAt 0 0 2 = NONE
                has 0 = 1
                not = 1
                search 0 0 2 = 4
                search 0 5 2 = 2
                -- also when nothing is left of the mark
                exchange 0 1 250 = 1
                exchange 0 2 250 = 3
                exchange 0 3 250 = 3
                sweep 0 = 1
                parentOf 0 5 = LOST
                -- until it is moved
                move 0 5 2 = LOST
                parentOf 0 5 = 2
                conflicts 0 1 = 0
                """);
        SAYS.hold("Others are shown at their parents", """
                exchange 1 0 250 = 2
                each 1 4: parentOf 0 # = 0
                parentOf 0 2 = 1
                parentOf 0 6 = 5
                childAt 0 5 0 = 6
                childAt 0 5 1 = NONE
                """);
        SAYS.hold("Entries that are shown at the same place are siblings", """
                -- at LOST, too, whatever their parents were
                add 1 4 0 7 = 7
                delete 0 4 = 2
                exchange 1 0 250 = 3
                nameOf 0 5 = 7
                nameOf 0 7 = 107
                conflicts 0 0 = 1
                rename 0 7 8 = 107
                rename 0 7 7 = notTaken
                -- those at unlike places are none
                rename 0 2 1 = 2
                nameOf 0 2 = 1
                nameOf 0 1 = 1
                conflicts 0 0 = 0
                """);
    }

    private static void clashes() {
        SAYS.of("Changes", Preludes.SCHEMA);
        SAYS.hold("the one whose ADD comes first in order is shown with this name", """
                -- not the one that had the name first
                add 0 0 0 1 = 1
                add 0 0 0 2 = 2
                exchange 0 1 250 = 2
                rename 0 2 50 = 2
                rename 1 1 51 = 1
                rename 1 1 50 = 51
                exchange 1 0 250 = 2
                nameOf 0 1 = 50
                nameOf 0 2 = 102
                conflicts 0 0 = 1
                """);
        SAYS.hold("each other one clashes", """
                each 3 2 1 0: add # 0 0 5
                exchange 1 0 250 = 1
                exchange 2 0 250 = 1
                exchange 3 0 250 = 1
                conflicts 0 0 = 3
                nameOf 0 4 = 5
                nameOf 0 1 = 101
                nameOf 0 2 = 102
                nameOf 0 3 = 103
                each 1 2 3: conflicts # 0 = 0
                """);
        SAYS.hold("and is shown with the name 100 and its number, together", """
                for 1 46: add 0 0 0 # = #
                add 1 0 0 1 = 47
                exchange 1 0 250 = 1
                -- both have the stamp 1
                nameOf 0 1 = 1
                nameOf 0 47 = 147
                childAt 0 0 46 = 47
                rename 0 47 99 = 147
                """);
    }

    private static void clashesByOrder() {
        SAYS.of("Changes", Preludes.SCHEMA);
        SAYS.hold("Of live siblings with the same name", """
                add 0 0 0 5 = 1
                add 1 0 0 5 = 2
                add 0 1 0 5 = 3
                exchange 1 0 250 = 1
                nameOf 0 2 = 102
                -- neither a deleted one, nor one at another place
                nameOf 0 3 = 5
                delete 0 3 = 1
                delete 0 1 = 2
                nameOf 0 2 = 5
                conflicts 0 0 = 0
                """);
        SAYS.hold("whose ADD comes first in order", """
                -- by the stamps, whatever the numbers of the masters and of the entries
                add 0 0 0 1 = 1
                add 0 0 0 5 = 2
                add 3 0 0 5 = 3
                exchange 3 0 250 = 1
                nameOf 0 3 = 5
                nameOf 0 2 = 102
                """);
    }

    private static void incompleteOnes() {
        SAYS.of("Changes", Preludes.SCHEMA + """
                draft 0 0 = 1
                draft 0 999 = 2
                add 0 0 1 1 = 1
                add 0 0 0 2 = 2
                exchange 0 1 250 = 2
                """);
        SAYS.hold("A live entry is incomplete, if it has no value of some attribute that is required by its class", """
                removeValue 0 1 0 0 = 1
                conflicts 0 2 = 0
                removeValue 1 1 0 999 = 1
                exchange 1 0 250 = 1
                conflicts 0 2 = 1
                conflicts 1 2 = 0
                addValue 0 1 0 0 = 1
                conflicts 0 2 = 0
                """);
        SAYS.hold("A live entry is incomplete", """
                removeValue 0 1 0 0 = 1
                removeValue 1 1 0 999 = 1
                exchange 1 0 250 = 1
                conflicts 0 2 = 1
                delete 0 1 = 1
                conflicts 0 2 = 0
                """);
    }
}
