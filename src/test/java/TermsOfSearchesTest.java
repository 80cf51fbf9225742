/** The sentences of the terms that tell of rules of access, of filters, and of searches. */
final class TermsOfSearchesTest {
    private static final Sentences SAYS = new Sentences();

    private TermsOfSearchesTest() {
    }

    public static void main(String[] args) {
        userZero();
        upwards();
        whatIsLookedAt();
        firstThatDecides();
        sortsOfSubjects();
        groups();
        noRules();
        filters();
        filtersOfFilters();
        draftOfFilters();
        searches();
        found();
        follows();
        comingToEntries();
        arriving();
        scopesOfFollowing();
        exceptions();
        constants();
        SAYS.end("TermsOfSearchesTest");
    }

    private static void userZero() {
        SAYS.of("Access", Preludes.TREE);
        SAYS.hold("The user 0 has all rights", """
                addValue 0 4 0 0 = 1
                each 0 1: rule 0 1 0 2 # DENY = NOTHING
                each 0 1: rule 0 1 104 2 # DENY = NOTHING
                each 0 1: rule 0 1 ALL 2 # DENY = NOTHING
                each 0 1 2 3 4: may 0 0 # 0 = true
                each 0 1 2 3 4: may 0 0 # 1 = true
                each 1 5: may 0 # 1 0 = false
                rename 0 1 9 = 1
                """);
    }

    private static void upwards() {
        SAYS.of("Access", Preludes.TOLD);
        SAYS.hold("rules are looked at from the entry upwards, over the places at which entries are shown", """
                rule 0 4 3 2 1 ALLOW = NOTHING
                each 1 2 3: may 0 3 # 1 = false
                move 0 2 4 = 1
                may 0 3 1 1 = false
                each 2 3: may 0 3 # 1 = true
                """);
        SAYS.hold("up to the root", """
                rule 0 0 3 2 1 ALLOW = NOTHING
                each 0 1 2 3 4: may 0 3 # 1 = true
                """);
        SAYS.hold("or to an orphan", """
                rule 0 0 3 2 1 ALLOW = NOTHING
                rule 0 4 3 2 1 ALLOW = NOTHING
                rule 0 4 4 1 1 ALLOW = NOTHING
                exchange 0 1 250 = 3
                add 1 4 0 5 = 5
                add 1 5 0 6 = 6
                each 5 6: may 1 3 # 1 = true
                may 1 4 5 1 = true
                delete 0 4 = 1
                exchange 1 0 250 = 2
                -- neither the deleted one's rules nor the root's count then, the orphan's own do
                each 5 6: may 0 3 # 1 = false
                may 0 4 5 1 = false
                rule 0 5 3 2 1 ALLOW = NOTHING
                each 5 6: may 0 3 # 1 = true
                """);
    }

    private static void whatIsLookedAt() {
        SAYS.of("Access", Preludes.TREE);
        SAYS.hold("first those of the entry itself with the scopes 0 and 2", """
                rule 0 2 3 1 1 ALLOW = NOTHING
                may 0 3 2 1 = false
                rule 0 2 3 0 1 ALLOW = NOTHING
                may 0 3 2 1 = true
                rule 0 2 3 0 1 NOTHING = ALLOW
                rule 0 2 3 2 1 ALLOW = NOTHING
                may 0 3 2 1 = true
                -- both together: one that denies is enough
                rule 0 2 3 0 1 DENY = NOTHING
                may 0 3 2 1 = false
                rule 0 2 3 0 1 ALLOW = DENY
                rule 0 2 3 2 1 DENY = ALLOW
                may 0 3 2 1 = false
                """);
        SAYS.hold("then those of its parent with the scopes 1 and 2", """
                rule 0 1 3 0 1 ALLOW = NOTHING
                may 0 3 2 1 = false
                rule 0 1 3 1 1 ALLOW = NOTHING
                may 0 3 2 1 = true
                rule 0 1 3 1 1 NOTHING = ALLOW
                rule 0 1 3 2 1 ALLOW = NOTHING
                may 0 3 2 1 = true
                rule 0 1 3 1 1 DENY = NOTHING
                may 0 3 2 1 = false
                """);
        SAYS.hold("then those of each further one with the scope 2", """
                each 0 1: rule 0 1 3 # 1 ALLOW = NOTHING
                each 0 1: rule 0 0 3 # 1 ALLOW = NOTHING
                may 0 3 3 1 = false
                rule 0 0 3 2 1 ALLOW = NOTHING
                may 0 3 3 1 = true
                rule 0 1 3 2 1 DENY = NOTHING
                may 0 3 3 1 = false
                """);
    }

    private static void firstThatDecides() {
        SAYS.of("Access", Preludes.TREE);
        SAYS.hold("The first entry decides", """
                -- whichever says what, and for whom
                rule 0 0 3 2 0 DENY = NOTHING
                rule 0 1 ALL 2 0 ALLOW = NOTHING
                rule 0 2 ALL 2 0 DENY = NOTHING
                rule 0 3 3 0 0 ALLOW = NOTHING
                may 0 3 0 0 = false
                may 0 3 1 0 = true
                may 0 3 2 0 = false
                may 0 3 3 0 = true
                may 0 3 4 0 = false
                may 0 4 4 0 = true
                """);
        SAYS.hold("that has rules there for the right which say something and apply", """
                rule 0 0 3 2 0 DENY = NOTHING
                -- for the other right, for another user, for a group without the user, with another scope, nothing
                rule 0 2 3 2 1 ALLOW = NOTHING
                rule 0 2 4 2 0 ALLOW = NOTHING
                rule 0 2 104 2 0 ALLOW = NOTHING
                rule 0 2 3 1 0 ALLOW = NOTHING
                rule 0 2 ALL 2 0 ALLOW = NOTHING
                rule 0 2 ALL 2 0 NOTHING = ALLOW
                may 0 3 2 0 = false
                rule 0 2 ALL 2 0 ALLOW = NOTHING
                may 0 3 2 0 = true
                """);
    }

    private static void sortsOfSubjects() {
        // The groups 4 and 3 have the user 3.
        SAYS.of("Access", Preludes.TREE + """
                each 3 4: addValue 0 # 0 3 = 1
                """);
        SAYS.hold("of these those for the user go first", """
                rule 0 1 3 2 1 ALLOW = NOTHING
                rule 0 1 104 0 1 DENY = NOTHING
                rule 0 1 ALL 0 1 DENY = NOTHING
                may 0 3 1 1 = true
                rule 0 1 3 2 1 DENY = ALLOW
                rule 0 1 104 0 1 ALLOW = DENY
                rule 0 1 ALL 0 1 ALLOW = DENY
                may 0 3 1 1 = false
                """);
        SAYS.hold("then those for groups", """
                rule 0 1 104 2 1 ALLOW = NOTHING
                rule 0 1 ALL 0 1 DENY = NOTHING
                may 0 3 1 1 = true
                rule 0 1 104 2 1 DENY = ALLOW
                rule 0 1 ALL 0 1 ALLOW = DENY
                may 0 3 1 1 = false
                """);
        SAYS.hold("then those for everybody", """
                rule 0 1 ALL 2 1 ALLOW = NOTHING
                each 1 3 5: may 0 # 1 1 = true
                rule 0 1 ALL 2 1 DENY = ALLOW
                each 1 3 5: may 0 # 1 1 = false
                """);
        SAYS.hold("if one of the first sort that there is denies, the right is denied, otherwise it is allowed", """
                rule 0 1 104 0 1 ALLOW = NOTHING
                rule 0 1 103 0 1 ALLOW = NOTHING
                may 0 3 1 1 = true
                rule 0 1 103 2 1 DENY = NOTHING
                may 0 3 1 1 = false
                rule 0 1 103 2 1 NOTHING = DENY
                rule 0 1 104 2 1 DENY = NOTHING
                may 0 3 1 1 = false
                -- of a later sort none counts
                rule 0 1 3 2 1 ALLOW = NOTHING
                may 0 3 1 1 = true
                """);
    }

    private static void groups() {
        SAYS.of("Access", Preludes.TOLD + "rule 0 1 104 2 1 ALLOW = NOTHING");
        SAYS.hold("A rule for a group applies, if the group is live", """
                addValue 0 4 0 3 = 1
                may 0 3 1 1 = true
                exchange 0 1 250 = 2
                delete 0 4 = 1
                may 0 3 1 1 = false
                may 1 3 1 1 = true
                exchange 0 1 250 = 1
                may 1 3 1 1 = false
                """);
        SAYS.hold("and has a value of the attribute 0 that matches the number of the user", """
                each 1 2 3: addValue 0 4 # 5 = 1
                each 0 1 2 3 4: addValue 0 1 0 #
                may 0 5 1 1 = false
                each 4 6: addValue 0 4 0 #
                may 0 5 1 1 = false
                may 0 4 1 1 = true
                addValue 0 4 0 5 = 3
                may 0 5 1 1 = true
                each 4 6: removeValue 0 4 0 #
                may 0 5 1 1 = true
                may 0 4 1 1 = false
                """);
        SAYS.of("Access", """
                attribute false true = 0
                objectClass NONE 0 1 = 0
                each 1 2: add 0 0 0 # = #
                rule 0 2 101 0 1 ALLOW = NOTHING
                """);
        SAYS.hold("that matches the number of the user", """
                -- by tens, all users are of the first ten
                each 1 5: may 0 # 2 1 = false
                addValue 0 1 0 10 = 1
                each 1 5: may 0 # 2 1 = false
                replace 0 1 0 9 = 1
                each 1 2 3 4 5: may 0 # 2 1 = true
                """);
    }

    private static void noRules() {
        SAYS.of("Access", Preludes.TOLD);
        SAYS.hold("If no entry decides, the user may read, and not write", """
                each 1 2 3 4 5: may 0 # 3 0 = true
                each 1 2 3 4 5: may 0 # 3 1 = false
                each 1 2 3 4 5: may 3 # 0 0 = true
                each 1 2 3 4 5: may 3 # 0 1 = false
                """);
    }

    private static void filters() {
        SAYS.of("Filters and searches", Preludes.TREE + """
                addValue 0 1 0 50 = 1
                addValue 0 2 1 50 = 1
                addValue 0 3 1 49 = 1
                """);
        SAYS.hold("a value, that the entry has a value of an attribute that matches it", """
                each 49 51: equal 0 #
                combine false = 1
                search 0 0 2 = 0
                wipe = 3
                equal 0 50 = 1
                search 0 0 2 = 1
                wipe = 1
                equal 1 59 = 1
                search 0 0 2 = 1
                found 0 = 2
                wipe = 1
                equal 1 40 = 1
                search 0 0 2 = 1
                found 0 = 3
                """);
        SAYS.hold("at least, that it has a value of which the key is not less than that of a told one", """
                atLeast 0 51 = 1
                search 0 0 2 = 0
                wipe = 1
                each 50 0: atLeast 0 #
                combine true = 1
                search 0 0 2 = 1
                wipe = 3
                atLeast 1 59 = 1
                search 0 0 2 = 1
                wipe = 1
                atLeast 1 49 = 1
                search 0 0 2 = 2
                wipe = 1
                atLeast 1 60 = 1
                search 0 0 2 = 0
                -- not by the values of the next attribute
                wipe = 1
                addValue 0 4 1 0 = 1
                addValue 0 4 2 1 = 1
                atLeast 0 999 = 1
                search 0 0 2 = 0
                searchByWalk 0 0 2 = 0
                wipe = 1
                atLeast 1 60 = 1
                search 0 0 2 = 0
                searchByWalk 0 0 2 = 0
                -- one of several values is enough, though others are less
                addValue 0 3 1 60 = 2
                search 0 0 2 = 1
                """);
        SAYS.hold("has, that it has some value of an attribute", """
                has 1 = 1
                search 0 0 2 = 2
                wipe = 1
                has 2 = 1
                search 0 0 2 = 0
                addValue 0 4 2 0 = 1
                search 0 0 2 = 1
                replace 0 4 2 999 = 1
                search 0 0 2 = 1
                removeValue 0 4 2 999 = 0
                search 0 0 2 = 0
                """);
    }

    private static void filtersOfFilters() {
        SAYS.of("Filters and searches", """
                attribute false false = 0
                objectClass NONE 0 1 = 0
                for 1 7: objectClass #-1 0 0 = #
                for 1 8: add 0 0 #-1 # = #
                """);
        SAYS.hold("a class, that it is of this class, or of one that has it as its parent, or as the parent of that", """
                ofClass 0 = 1
                search 0 0 2 = 8
                wipe = 1
                ofClass 6 = 1
                search 0 0 2 = 2
                found 0 = 7
                found 1 = 8
                wipe = 1
                ofClass 7 = 1
                search 0 0 2 = 1
                found 0 = 8
                """);
        SAYS.hold("both of two filters; one at least of two", """
                each 1 2: addValue 0 # 0 5 = 1
                each 2 3: addValue 0 # 0 6
                each 5 6: equal 0 #
                combine true = 1
                search 0 0 2 = 1
                found 0 = 2
                searchByWalk 0 0 2 = 1
                follow 0 0 2 = 1
                found 0 = 2
                wipe = 3
                each 5 6: equal 0 #
                combine false = 1
                search 0 0 2 = 3
                searchByWalk 0 0 2 = 3
                follow 0 0 2 = 3
                """);
        SAYS.hold("both of two filters", """
                -- neither, the first one, the other one, both
                each 2 4: addValue 0 # 0 5 = 1
                each 3 4: addValue 0 # 0 6
                each 5 6: equal 0 #
                combine true = 1
                for 1 3: search 0 # 0 = 0
                for 1 3: searchByWalk 0 # 0 = 0
                for 1 3: follow 0 # 0 = 0
                search 0 4 0 = 1
                searchByWalk 0 4 0 = 1
                follow 0 4 0 = 1
                """);
        SAYS.hold("one at least of two", """
                each 2 4: addValue 0 # 0 5 = 1
                each 3 4: addValue 0 # 0 6
                each 5 6: equal 0 #
                combine false = 1
                search 0 1 0 = 0
                searchByWalk 0 1 0 = 0
                follow 0 1 0 = 0
                for 2 4: search 0 # 0 = 1
                for 2 4: searchByWalk 0 # 0 = 1
                for 2 4: follow 0 # 0 = 1
                """);
        SAYS.hold("not a filter", """
                addValue 0 1 0 5 = 1
                equal 0 5 = 1
                not = 1
                -- the root and seven more
                search 0 0 2 = 8
                searchByWalk 0 0 2 = 8
                follow 0 0 2 = 8
                not = 1
                search 0 0 2 = 1
                searchByWalk 0 0 2 = 1
                follow 0 0 2 = 1
                """);
        SAYS.hold("A filter is", """
                -- filters of filters of filters: one of these two, and not that one; the order counts
                each 1 2 3: addValue 0 # 0 #
                addValue 0 2 0 9 = 2
                equal 0 9 = 1
                each 1 2: equal 0 #
                combine false = 2
                search 0 0 2 = notTaken
                not = 2
                combine false = 1
                search 0 0 2 = 8
                searchByWalk 0 0 2 = 8
                follow 0 0 2 = 8
                not = 1
                search 0 0 2 = 1
                found 0 = 1
                searchByWalk 0 0 2 = 1
                """);
    }

    private static void draftOfFilters() {
        SAYS.of("Filters and searches", Preludes.SCHEMA);
        SAYS.hold("The draft has filters one behind another, at most 8", """
                each 1 2 3 4 5 6 7 8: has 0 = #
                has 0 = notTaken
                equal 0 0 = notTaken
                atLeast 0 0 = notTaken
                ofClass 0 = notTaken
                not = 8
                combine true = 7
                has 0 = 8
                """);
        SAYS.hold("of at most 15 parts together, each of those listed being one", """
                -- each sort of part as the fifteenth one, and none as the sixteenth one
                has 0 = 1
                for 2 14: not = 1
                equal 0 0 = 2
                combine true = notTaken
                not = notTaken
                each 0 1: has # = notTaken
                equal 0 0 = notTaken
                atLeast 0 0 = notTaken
                ofClass 0 = notTaken
                wipe = 15
                """);
        SAYS.hold("each of those listed being one", """
                equal 0 0 = 1
                wipe = 1
                atLeast 0 0 = 1
                has 0 = 2
                ofClass 0 = 3
                equal 0 0 = 4
                wipe = 4
                each 1 2 3: has 0 = #
                combine true = 2
                combine false = 1
                not = 1
                wipe = 6
                """);
        SAYS.hold("at most 8, of at most 15 parts together", """
                -- all of them in one filter: both 6 and 7, or one at least of 0 to 5
                add 0 0 0 1 = 1
                each 6 7: addValue 0 1 0 #
                each 0 1 2 3 4 5 6 7: equal 0 #
                combine true = 7
                each 6 5 4 3 2: combine false = #
                combine false = 1
                search 0 1 0 = 1
                searchByWalk 0 1 0 = 1
                follow 0 1 0 = 1
                removeValue 0 1 0 7 = 1
                search 0 1 0 = 0
                searchByWalk 0 1 0 = 0
                follow 0 1 0 = 0
                addValue 0 1 0 0 = 2
                search 0 1 0 = 1
                searchByWalk 0 1 0 = 1
                wipe = 15
                """);
    }

    private static void searches() {
        SAYS.of("Filters and searches", Preludes.TOLD + """
                has 0 = 1
                not = 1
                """);
        SAYS.hold("A search at a master has a base, which is live there", """
                delete 0 4 = 1
                each 4 5 48 -1 LOST: search 0 # 2 = noSuch
                each 4 5 48 -1 LOST: searchByWalk 0 # 2 = noSuch
                each 4 5 48 -1 LOST: follow 0 # 2 = noSuch
                search 1 4 2 = 1
                found 0 = 104
                """);
        SAYS.hold("0 the base, 1 all that is shown at it, 2 the base and all that is shown beneath it", """
                each 0 1 2 3: search 0 # 0 = 1
                found 0 = 3
                each 0 1 2 3: searchByWalk 0 # 0 = 1
                search 0 0 1 = 2
                found 0 = 1
                found 1 = 4
                search 0 1 1 = 1
                found 0 = 2
                search 0 3 1 = 0
                searchByWalk 0 0 1 = 2
                searchByWalk 0 3 1 = 0
                search 0 0 2 = 5
                search 0 1 2 = 3
                found 0 = 1
                found 2 = 3
                search 0 3 2 = 1
                searchByWalk 0 0 2 = 5
                searchByWalk 0 3 2 = 1
                each -1 3: search 0 0 # = noSuch
                """);
        SAYS.hold("all that is shown at it", """
                -- not what is at LOST, unless the base is there itself
                delete 0 3 = 1
                add 1 3 0 5 = 5
                exchange 1 0 250 = 1
                search 0 0 2 = 4
                searchByWalk 0 0 2 = 4
                search 0 5 2 = 1
                searchByWalk 0 5 2 = 1
                search 0 5 1 = 0
                """);
    }

    private static void found() {
        SAYS.of("Filters and searches", Preludes.TOLD);
        SAYS.hold("It finds the live entries of these to which the one filter of the draft applies", """
                search 0 0 2 = notTaken
                ofClass 0 = 1
                search 0 0 2 = 4
                has 0 = 2
                search 0 0 2 = notTaken
                combine true = 1
                search 0 0 2 = 0
                searchByWalk 0 0 2 = 0
                addValue 0 4 0 5 = 1
                search 0 0 2 = 1
                delete 0 4 = 1
                search 0 0 2 = 0
                search 1 0 2 = 0
                """);
        SAYS.hold("and which the user that the master serves may read", """
                ofClass 0 = 1
                rule 0 2 3 0 0 DENY = NOTHING
                search 0 0 2 = 4
                serve 0 3 = 0
                search 0 0 2 = 3
                found 1 = 3
                searchByWalk 0 0 2 = 3
                search 0 2 0 = 0
                search 1 0 2 = 4
                serve 0 4 = 3
                search 0 0 2 = 4
                """);
    }

    private static void follows() {
        SAYS.of("Filters and searches", Preludes.TOLD + "ofClass 0 = 1");
        SAYS.hold("To follow is a search that goes over links, and from master to master", """
                follow 0 0 2 = 4
                link 0 2 101 = NONE
                link 0 4 3 = NONE
                follow 0 0 2 = 4
                found 0 = 1
                found 1 = 102
                found 2 = 103
                found 3 = 3
                """);
        SAYS.hold("for the user whom the master serves at which it begins", """
                link 0 1 101 = NONE
                rule 1 2 3 0 0 DENY = NOTHING
                serve 1 3 = 0
                follow 0 0 2 = 4
                follow 1 0 2 = 3
                serve 1 0 = 3
                serve 0 3 = 0
                follow 0 0 2 = 3
                found 0 = 101
                found 1 = 103
                found 2 = 4
                """);
        SAYS.hold("One comes to the base first", """
                link 0 4 2 = NONE
                follow 0 4 0 = 1
                found 0 = 2
                follow 0 4 2 = 2
                follow 0 4 1 = 1
                found 0 = 3
                -- from a ring of links one arrives nowhere
                link 0 2 4 = NONE
                each 0 1 2: follow 0 4 # = 0
                """);
    }

    private static void comingToEntries() {
        SAYS.of("Filters and searches", Preludes.TOLD + "ofClass 0 = 1");
        SAYS.hold("if one has met it at this master already in this search, nothing more is done", """
                -- 4 goes first, and leads to 1, which is met by then
                rename 0 4 0 = 4
                link 0 4 1 = NONE
                follow 0 0 2 = 3
                found 0 = 1
                found 1 = 2
                found 2 = 3
                found 3 = noSuch
                -- at another master it is another one
                link 0 3 101 = NONE
                follow 0 0 2 = 3
                found 2 = 103
                """);
        SAYS.hold("already in this search", """
                -- a next search begins anew
                each 1 2 3: follow 0 1 2 = 3
                each 1 2 3: follow 1 0 2 = 4
                """);
        SAYS.hold("if it has an alias there, one comes to the entry that this tells, at the same master", """
                exchange 0 1 250 = 0
                link 1 4 2 = NONE
                follow 1 4 0 = 1
                found 0 = 102
                follow 0 4 0 = 1
                found 0 = 4
                -- over several ones, up to the root
                link 1 2 3 = NONE
                link 1 3 0 = NONE
                not = 1
                follow 1 4 0 = 1
                found 0 = 100
                """);
        SAYS.hold("if it has a referral there, one comes to the same entry at the master that this tells", """
                link 0 4 101 = NONE
                link 1 4 102 = NONE
                link 2 4 103 = NONE
                follow 0 4 0 = 1
                found 0 = 304
                follow 2 4 0 = 1
                found 0 = 304
                -- to the first one again, and to itself: met already
                link 3 4 100 = NONE
                follow 0 4 0 = 0
                link 3 4 103 = 100
                follow 3 4 0 = 0
                """);
        SAYS.hold("either way, if that one is not live there, nothing more is done", """
                link 0 1 4 = NONE
                delete 0 4 = 1
                each 0 1 2: follow 0 1 # = 0
                follow 0 0 2 = 0
                link 0 1 101 = 4
                delete 1 3 = 1
                delete 1 2 = 2
                delete 1 1 = 3
                each 0 1 2: follow 0 1 # = 0
                add 0 0 0 9 = 5
                link 0 5 103 = NONE
                each 0 1 2: follow 0 5 # = 0
                """);
    }

    private static void arriving() {
        SAYS.of("Filters and searches", Preludes.TOLD + "ofClass 0 = 1");
        SAYS.hold("If it has no link there, one has arrived at it", """
                follow 0 3 0 = 1
                link 0 3 2 = NONE
                link 0 3 NONE = 2
                follow 0 3 0 = 1
                found 0 = 3
                """);
        SAYS.hold("it is found, if the filter applies and the user may read it, both by what this master shows", """
                addValue 1 3 0 5 = 1
                wipe = 1
                equal 0 5 = 1
                follow 0 3 0 = 0
                link 0 3 101 = NONE
                follow 0 3 0 = 1
                -- the rules of the master at which it began do not count there, those of the other one do
                rule 0 3 3 0 0 DENY = NOTHING
                serve 0 3 = 0
                follow 0 3 0 = 1
                rule 1 3 3 0 0 DENY = NOTHING
                follow 0 3 0 = 0
                """);
        SAYS.hold("An entry at which one has arrived is looked at", """
                -- one with a link is not, and what may not be read is still gone through
                link 0 2 4 = NONE
                follow 0 1 2 = 2
                found 0 = 1
                found 1 = 4
                link 0 2 NONE = 4
                rule 0 2 3 0 0 DENY = NOTHING
                serve 0 3 = 0
                follow 0 1 2 = 2
                found 1 = 3
                """);
    }

    private static void scopesOfFollowing() {
        SAYS.of("Filters and searches", Preludes.TOLD + """
                ofClass 0 = 1
                add 0 1 0 1 = 5
                add 0 1 0 99 = 6
                """);
        SAYS.hold("With the scope 0 that is all", """
                follow 0 1 0 = 1
                found 0 = 1
                follow 0 0 0 = 0
                """);
        SAYS.hold("behind looking at an entry, one comes to each one that is shown at it at this master, by rising", """
                follow 0 0 2 = 6
                found 0 = 1
                found 1 = 5
                found 2 = 2
                found 3 = 3
                found 4 = 6
                found 5 = 4
                """);
        SAYS.hold("by rising shown names", """
                -- 7 clashes, and is shown with the name 107, behind 99
                add 1 1 0 1 = 7
                exchange 1 0 250 = 1
                nameOf 0 5 = 1
                nameOf 0 7 = 107
                follow 0 1 2 = 6
                found 1 = 5
                found 2 = 2
                found 4 = 6
                found 5 = 7
                follow 0 1 1 = 4
                found 0 = 5
                found 1 = 2
                found 2 = 6
                found 3 = 7
                """);
        SAYS.hold("each one with all that follows from it being done ahead of the next one", """
                -- 5 leads to 4 ahead of 2 and 6, and 4 is met then
                link 0 5 4 = NONE
                add 0 4 0 0 = 7
                follow 0 0 2 = 6
                found 0 = 1
                found 1 = 4
                found 2 = 7
                found 3 = 2
                found 4 = 3
                found 5 = 6
                """);
        SAYS.hold("that entry is not looked at, but one comes to each one that is shown at it at this master", """
                follow 0 1 1 = 3
                found 0 = 5
                found 1 = 2
                found 2 = 6
                follow 0 3 1 = 0
                link 0 4 101 = NONE
                link 1 4 1 = NONE
                follow 0 4 1 = 1
                found 0 = 102
                """);
        SAYS.hold("and only these are looked at, without going on from them", """
                -- a child that is an alias is come to over its link; what is beneath is not
                link 0 5 4 = NONE
                add 0 4 0 7 = 7
                follow 0 1 1 = 3
                found 0 = 4
                found 1 = 2
                found 2 = 6
                """);
    }

    private static void exceptions() {
        SAYS.of("Filters and searches", Preludes.TREE);
        SAYS.hold("A call that throws an exception changes nothing", """
                draft 4 1 = 1
                add 0 0 0 9 = notTaken
                undraft = 1
                rename 0 1 4 = notTaken
                nameOf 0 1 = 1
                knows 0 0 = 4
                add 0 0 0 9 = 5
                """);
        SAYS.hold("If several apply, the one that the throws clause names first is thrown", """
                addValue 4 1 0 1000 = noSuch
                addValue 0 1 5 1000 = noSuch
                addValue 0 1 4 1000 = outOfRange
                addValue 0 1 4 999 = notTaken
                """);
        SAYS.hold("There is no entry at a master that is not live there", """
                delete 0 4 = 1
                each 4 5: nameOf 0 # = noSuch
                each 1 2 3 4: nameOf 1 # = noSuch
                nameOf 1 0 = 0
                """);
    }

    private static void constants() {
        SAYS.of("Filters and searches", Preludes.TOLD);
        SAYS.hold("`NONE = -1`: There is none", """
                parentOf 0 0 = -1
                childAt 0 3 0 = -1
                linkOf 0 1 = -1
                link 0 1 4 = -1
                link 0 1 -1 = 4
                """);
        SAYS.hold("`LOST = -2`: The place beside the tree", """
                delete 0 4 = 1
                add 1 4 0 9 = 5
                exchange 1 0 250 = 1
                parentOf 0 5 = -2
                childAt 0 -2 0 = 5
                """);
        SAYS.hold("`ALL = -1`: Everybody, as a subject", """
                rule 0 1 -1 0 0 2 = 0
                each 1 2 3 4 5: may 0 # 1 0 = false
                """);
        SAYS.hold("`NOTHING = 0, ALLOW = 1, DENY = 2`: What rules say", """
                rule 0 1 3 0 0 2 = 0
                may 0 3 1 0 = false
                rule 0 1 3 0 0 1 = 2
                may 0 3 1 0 = true
                rule 0 1 3 0 0 0 = 1
                """);
    }
}
