/** The sentences of the promises 18 to 28: the draft of filters, and searches. */
final class PromisesOfSearchesTest {
    private static final Sentences SAYS = new Sentences();
    private static final String EIGHT = "each 1 2 3 4 5 6 7 8: has 0 = #\n";
    private static final String FIFTEEN = EIGHT + "for 1 7: combine true\n";

    private PromisesOfSearchesTest() {
    }

    public static void main(String[] args) {
        equal();
        atLeast();
        has();
        ofClass();
        combine();
        not();
        wipe();
        search();
        searchRefused();
        searchByWalk();
        searchByWalkRefused();
        follow();
        followRefused();
        found();
        SAYS.end("PromisesOfSearchesTest");
    }

    private static void equal() {
        SAYS.of("Promise 18", Preludes.TREE);
        SAYS.hold("Puts into the draft that an entry has a value that matches", """
                addValue 0 1 0 5 = 1
                addValue 0 2 1 5 = 1
                equal 0 5 = 1
                search 0 0 2 = 1
                found 0 = 1
                wipe = 1
                equal 1 9 = 1
                search 0 0 2 = 1
                found 0 = 2
                wipe = 1
                equal 1 10 = 1
                search 0 0 2 = 0
                """);
        SAYS.hold("its number", """
                each 0 4: equal # 5
                each -1 5 10 MIN MAX: equal # 5 = noSuch
                wipe = 2
                """);
        SAYS.hold("`value`: 0 to 999", """
                addValue 0 1 0 0 = 1
                addValue 0 2 0 999 = 1
                each 0 999: equal 0 #
                each -1 1000 MIN MAX: equal 0 # = outOfRange
                combine false = 1
                search 0 0 2 = 2
                """);
        SAYS.hold("Returns how many filters the draft has then", """
                each 1 2 3 4 5 6 7 8: equal 0 5 = #
                wipe = 8
                equal 0 5 = 1
                """);
        SAYS.hold("if there is no such attribute", EIGHT + """
                each -1 5: equal # 5 = noSuch
                each -1 5: equal # 1000 = noSuch
                wipe = 8
                each -1 5: equal # 1000 = noSuch
                """);
        SAYS.hold("if value is out of range", EIGHT + """
                each -1 1000: equal 0 # = outOfRange
                """);
        SAYS.hold("if it has 8 filters", EIGHT + """
                equal 0 5 = notTaken
                combine true = 7
                equal 0 5 = 8
                equal 0 5 = notTaken
                """);
        SAYS.hold("or 15 parts", """
                has 0 = 1
                for 1 13: not = 1
                equal 0 5 = 2
                equal 0 5 = notTaken
                each -1 1000: equal 0 # = outOfRange
                equal 5 1000 = noSuch
                wipe = 15
                """);
    }

    private static void atLeast() {
        SAYS.of("Promise 19", Preludes.TREE);
        SAYS.hold("Puts into the draft that an entry has a value of which the key is not less", """
                addValue 0 1 0 5 = 1
                addValue 0 2 1 5 = 1
                atLeast 0 5 = 1
                search 0 0 2 = 1
                found 0 = 1
                wipe = 1
                atLeast 0 6 = 1
                search 0 0 2 = 0
                wipe = 1
                atLeast 1 9 = 1
                search 0 0 2 = 1
                found 0 = 2
                wipe = 1
                atLeast 1 10 = 1
                search 0 0 2 = 0
                """);
        SAYS.hold("its number", """
                each 0 4: atLeast # 5
                each -1 5 10 MIN MAX: atLeast # 5 = noSuch
                wipe = 2
                """);
        SAYS.hold("`value`: 0 to 999", """
                addValue 0 1 0 0 = 1
                addValue 0 2 0 999 = 1
                atLeast 0 0 = 1
                search 0 0 2 = 2
                wipe = 1
                atLeast 0 1 = 1
                search 0 0 2 = 1
                wipe = 1
                atLeast 0 999 = 1
                search 0 0 2 = 1
                found 0 = 2
                each -1 1000 MIN MAX: atLeast 0 # = outOfRange
                """);
        SAYS.hold("Returns how many filters the draft has then", """
                each 1 2 3 4 5 6 7 8: atLeast 0 5 = #
                wipe = 8
                atLeast 0 5 = 1
                """);
        SAYS.hold("if there is no such attribute", EIGHT + """
                each -1 5: atLeast # 5 = noSuch
                each -1 5: atLeast # 1000 = noSuch
                wipe = 8
                each -1 5: atLeast # 1000 = noSuch
                """);
        SAYS.hold("if value is out of range", EIGHT + """
                each -1 1000: atLeast 0 # = outOfRange
                """);
        SAYS.hold("if it has 8 filters", EIGHT + """
                atLeast 0 5 = notTaken
                combine true = 7
                atLeast 0 5 = 8
                atLeast 0 5 = notTaken
                """);
        SAYS.hold("or 15 parts", """
                has 0 = 1
                for 1 13: not = 1
                atLeast 0 5 = 2
                atLeast 0 5 = notTaken
                each -1 1000: atLeast 0 # = outOfRange
                atLeast 5 1000 = noSuch
                wipe = 15
                """);
    }

    private static void has() {
        SAYS.of("Promise 20", Preludes.TREE);
        SAYS.hold("Puts into the draft that an entry has some value of an attribute", """
                addValue 0 1 0 0 = 1
                addValue 0 2 0 999 = 1
                addValue 0 3 1 0 = 1
                has 0 = 1
                search 0 0 2 = 2
                wipe = 1
                has 1 = 1
                search 0 0 2 = 1
                found 0 = 3
                wipe = 1
                has 2 = 1
                search 0 0 2 = 0
                """);
        SAYS.hold("its number", """
                each 0 4: has #
                each -1 5 10 MIN MAX: has # = noSuch
                wipe = 2
                """);
        SAYS.hold("Returns how many filters the draft has then", """
                each 1 2 3 4 5 6 7 8: has 0 = #
                wipe = 8
                has 0 = 1
                """);
        SAYS.hold("if there is no such attribute", EIGHT + """
                each -1 5: has # = noSuch
                wipe = 8
                each -1 5: has # = noSuch
                """);
        SAYS.hold("if it has 8 filters", EIGHT + """
                has 0 = notTaken
                combine true = 7
                has 0 = 8
                has 0 = notTaken
                """);
        SAYS.hold("or 15 parts", """
                has 0 = 1
                for 1 13: not = 1
                has 0 = 2
                has 0 = notTaken
                has 5 = noSuch
                wipe = 15
                """);
    }

    private static void ofClass() {
        SAYS.of("Promise 21", Preludes.TREE);
        SAYS.hold("Puts into the draft that an entry is of a class, or of one beneath it", """
                draft 0 5 = 1
                add 0 0 1 5 = 5
                add 0 0 2 6 = 6
                ofClass 0 = 1
                search 0 0 2 = 5
                wipe = 1
                ofClass 1 = 1
                search 0 0 2 = 1
                found 0 = 5
                wipe = 1
                ofClass 2 = 1
                search 0 0 2 = 1
                found 0 = 6
                """);
        SAYS.hold("`klass`: the class", """
                each 0 2: ofClass #
                each -1 3 8 MIN MAX: ofClass # = noSuch
                wipe = 2
                """);
        SAYS.hold("Returns how many filters the draft has then", """
                each 1 2 3 4 5 6 7 8: ofClass 0 = #
                wipe = 8
                ofClass 0 = 1
                """);
        SAYS.hold("if there is no such class", EIGHT + """
                each -1 3: ofClass # = noSuch
                wipe = 8
                each -1 3: ofClass # = noSuch
                """);
        SAYS.hold("if it has 8 filters", EIGHT + """
                ofClass 0 = notTaken
                combine true = 7
                ofClass 0 = 8
                ofClass 0 = notTaken
                """);
        SAYS.hold("or 15 parts", """
                has 0 = 1
                for 1 13: not = 1
                ofClass 0 = 2
                ofClass 0 = notTaken
                ofClass 3 = noSuch
                wipe = 15
                """);
    }

    private static void combine() {
        SAYS.of("Promise 22", Preludes.TREE + """
                each 1 2: addValue 0 # 0 5 = 1
                each 2 3: addValue 0 # 1 5 = 1
                """);
        SAYS.hold("Makes one filter of the last two of the draft", """
                has 0 = 1
                has 1 = 2
                ofClass 1 = 3
                combine false = 2
                search 0 0 2 = notTaken
                combine true = 1
                search 0 0 2 = 1
                found 0 = 2
                searchByWalk 0 0 2 = 1
                follow 0 0 2 = 1
                """);
        SAYS.hold("whether both have to apply, otherwise one at least", """
                each 0 1: has #
                combine true = 1
                search 0 0 2 = 1
                found 0 = 2
                wipe = 3
                each 0 1: has #
                combine false = 1
                search 0 0 2 = 3
                """);
        SAYS.hold("Returns how many filters the draft has then", EIGHT + """
                each 7 6 5 4 3 2 1: combine true = #
                """);
        SAYS.hold("if it has fewer than two filters", """
                each false true: combine # = notTaken
                has 0 = 1
                each false true: combine # = notTaken
                has 1 = 2
                combine true = 1
                each false true: combine # = notTaken
                wipe = 3
                """);
        SAYS.hold("or 15 parts", """
                has 0 = 1
                for 1 12: not = 1
                has 0 = 2
                combine true = 1
                wipe = 15
                has 0 = 1
                for 1 13: not = 1
                has 0 = 2
                each false true: combine # = notTaken
                wipe = 15
                """);
    }

    private static void not() {
        SAYS.of("Promise 23", Preludes.TREE + "addValue 0 1 0 5 = 1");
        SAYS.hold("Lets the last filter of the draft apply where it does not", """
                has 0 = 1
                ofClass 0 = 2
                not = 2
                combine false = 1
                -- the root, which has no class, and 1
                search 0 0 2 = 2
                found 0 = 0
                found 1 = 1
                searchByWalk 0 0 2 = 2
                follow 0 0 2 = 2
                not = 1
                search 0 0 2 = 3
                searchByWalk 0 0 2 = 3
                follow 0 0 2 = 3
                """);
        SAYS.hold("Returns how many filters the draft has.", EIGHT + """
                not = 8
                wipe = 9
                has 0 = 1
                not = 1
                has 0 = 2
                not = 2
                """);
        SAYS.hold("if it has no filter", """
                not = notTaken
                has 0 = 1
                not = 1
                wipe = 2
                not = notTaken
                """);
        SAYS.hold("or 15 parts", """
                has 0 = 1
                for 1 14: not = 1
                not = notTaken
                search 0 0 2 = 1
                wipe = 15
                """ + EIGHT + """
                for 1 7: not = 8
                not = notTaken
                wipe = 15
                """);
    }

    private static void wipe() {
        SAYS.of("Promise 24", Preludes.TREE);
        SAYS.hold("Empties the draft of filters", EIGHT + """
                wipe = 8
                search 0 0 2 = notTaken
                not = notTaken
                combine true = notTaken
                -- all of them fit in again
                """ + EIGHT + """
                wipe = 8
                ofClass 0 = 1
                search 0 0 2 = 4
                """);
        SAYS.hold("Returns how many parts it had", """
                wipe = 0
                has 0 = 1
                wipe = 1
                wipe = 0
                """ + FIFTEEN + """
                wipe = 15
                wipe = 0
                """);
    }

    private static void search() {
        SAYS.of("Promise 25", Preludes.TOLD + "ofClass 0 = 1");
        SAYS.hold("Searches by indexes; the draft stays", """
                search 0 0 2 = 4
                search 0 0 2 = 4
                not = 1
                search 0 0 2 = 1
                wipe = 2
                has 0 = 1
                search 0 0 2 = 0
                addValue 0 4 0 0 = 1
                search 0 0 2 = 1
                replace 0 4 0 999 = 1
                search 0 0 2 = 1
                removeValue 0 4 0 999 = 0
                search 0 0 2 = 0
                """);
        SAYS.hold("Searches by indexes", """
                -- also of what is got late: the value 5 goes, and 6 comes
                addValue 0 4 2 5 = 1
                addValue 1 4 2 6 = 1
                wipe = 1
                equal 2 5 = 1
                search 0 0 2 = 1
                exchange 1 0 250 = 1
                search 0 0 2 = 0
                wipe = 1
                equal 2 6 = 1
                search 0 0 2 = 1
                -- and of what is deleted so
                delete 1 4 = 1
                exchange 1 0 250 = 1
                search 0 0 2 = 0
                """);
        SAYS.hold("`master`: 0 to 3", """
                each 0 3: search # 0 2 = 4
                found 3 = 304
                each -1 4 MIN MAX: search # 0 2 = noSuch
                """);
        SAYS.hold("`scope`: 0 to 2", """
                search 0 1 0 = 1
                search 0 1 1 = 1
                search 0 1 2 = 3
                each -1 3 MIN MAX: search 0 1 # = noSuch
                """);
        SAYS.hold("Returns how many entries it finds, by rising numbers", """
                -- 3 has 4, which has 1, which has 2
                move 0 3 0 = 2
                move 0 4 3 = 0
                move 0 1 4 = 0
                search 0 0 2 = 4
                for 0 3: found # = #+1
                search 0 3 2 = 4
                for 0 3: found # = #+1
                search 0 2 1 = 0
                """);
        SAYS.of("Promise 25", Preludes.FULL_TREE + "ofClass 0 = 1\nnot = 1");
        SAYS.hold("`base`: an entry", """
                search 0 0 2 = 1
                not = 1
                search 0 0 2 = 47
                for 0 46: found # = #+1
                found 47 = noSuch
                each 1 47: search 0 # 2 = 1
                found 0 = 47
                each -1 LOST 48 64 MIN MAX: search 0 # 2 = noSuch
                """);
        SAYS.of("Promise 25", Preludes.FULL_SCHEMA + """
                for 1 47: add 0 #-1 0 # = #
                has 0 = 1
                not = 1
                """);
        SAYS.hold("Returns how many entries it finds", """
                -- as deep as can be
                search 0 0 2 = 48
                found 47 = 47
                search 0 1 2 = 47
                search 0 46 2 = 2
                search 0 47 2 = 1
                search 0 46 1 = 1
                """);
    }

    private static void searchRefused() {
        SAYS.of("Promise 25", Preludes.TREE);
        SAYS.hold("if there is no such master, entry there, or scope", """
                -- also where the draft is empty
                each -1 4: search # 0 0 = noSuch
                each 5 -1 LOST: search 0 # 0 = noSuch
                search 1 1 0 = noSuch
                each -1 3: search 0 0 # = noSuch
                ofClass 0 = 1
                delete 0 4 = 1
                search 0 4 0 = noSuch
                """);
        SAYS.hold("if the draft has not just one filter", """
                search 0 0 2 = notTaken
                ofClass 0 = 1
                search 0 0 2 = 4
                ofClass 0 = 2
                search 0 0 2 = notTaken
                """ + "each 3 4 5 6 7 8: ofClass 0 = #\n" + """
                search 0 0 2 = notTaken
                -- what was found stays
                found 3 = 4
                """);
    }

    private static void searchByWalk() {
        SAYS.of("Promise 26", Preludes.TOLD + "ofClass 0 = 1");
        SAYS.hold("by walking through the tree from the base", """
                searchByWalk 0 0 2 = 4
                move 0 1 4 = 0
                searchByWalk 0 4 2 = 4
                searchByWalk 0 1 2 = 3
                searchByWalk 1 4 2 = 1
                delete 0 3 = 1
                searchByWalk 0 0 2 = 3
                """);
        SAYS.hold("what was found last stays", """
                search 0 1 0 = 1
                searchByWalk 0 0 2 = 4
                searchByWalk 0 3 1 = 0
                found 0 = 1
                found 1 = noSuch
                """);
        SAYS.hold("`master`: 0 to 3", """
                each 0 3: searchByWalk # 0 2 = 4
                each -1 4 MIN MAX: searchByWalk # 0 2 = noSuch
                """);
        SAYS.hold("`scope`: 0 to 2", """
                searchByWalk 0 1 0 = 1
                searchByWalk 0 1 1 = 1
                searchByWalk 0 1 2 = 3
                each -1 3 MIN MAX: searchByWalk 0 1 # = noSuch
                """);
        SAYS.hold("Returns how many.", """
                searchByWalk 0 0 0 = 0
                searchByWalk 0 0 1 = 2
                searchByWalk 0 3 1 = 0
                """);
        SAYS.of("Promise 26", Preludes.FULL_SCHEMA + """
                for 1 47: add 0 #-1 0 # = #
                ofClass 0 = 1
                """);
        SAYS.hold("`base`: an entry", """
                searchByWalk 0 0 2 = 47
                searchByWalk 0 1 2 = 47
                searchByWalk 0 46 2 = 2
                searchByWalk 0 47 2 = 1
                searchByWalk 0 47 1 = 0
                each -1 LOST 48 64 MIN MAX: searchByWalk 0 # 2 = noSuch
                """);
    }

    private static void searchByWalkRefused() {
        SAYS.of("Promise 26", Preludes.TREE);
        SAYS.hold("if there is no such master, entry there, or scope", """
                each -1 4: searchByWalk # 0 0 = noSuch
                each 5 -1 LOST: searchByWalk 0 # 0 = noSuch
                searchByWalk 1 1 0 = noSuch
                each -1 3: searchByWalk 0 0 # = noSuch
                ofClass 0 = 1
                delete 0 4 = 1
                searchByWalk 0 4 0 = noSuch
                """);
        SAYS.hold("if the draft has not just one filter", """
                searchByWalk 0 0 2 = notTaken
                ofClass 0 = 1
                searchByWalk 0 0 2 = 4
                ofClass 0 = 2
                searchByWalk 0 0 2 = notTaken
                """);
    }

    private static void follow() {
        SAYS.of("Promise 27", Preludes.TOLD + "ofClass 0 = 1");
        SAYS.hold("Searches by following links; the draft stays", """
                link 0 4 101 = NONE
                follow 0 0 2 = 4
                found 3 = 104
                follow 0 0 2 = 4
                search 0 0 2 = 4
                found 3 = 4
                """);
        SAYS.hold("`master`: 0 to 3", """
                each 0 3: follow # 0 2 = 4
                found 3 = 304
                each -1 4 MIN MAX: follow # 0 2 = noSuch
                """);
        SAYS.hold("`scope`: 0 to 2", """
                follow 0 1 0 = 1
                found 0 = 1
                follow 0 1 1 = 1
                found 0 = 2
                follow 0 1 2 = 3
                each -1 3 MIN MAX: follow 0 1 # = noSuch
                """);
        SAYS.hold("Returns how many entries it finds, in the order in which it finds them", """
                rename 0 4 0 = 4
                follow 0 0 2 = 4
                found 0 = 4
                found 1 = 1
                found 2 = 2
                found 3 = 3
                found 4 = noSuch
                """);
        SAYS.of("Promise 27", Preludes.FULL_TREE + "ofClass 0 = 1");
        SAYS.hold("`base`: an entry", """
                follow 0 0 2 = 47
                each 1 47: follow 0 # 2 = 1
                found 0 = 47
                each -1 LOST 48 64 MIN MAX: follow 0 # 2 = noSuch
                """);
        SAYS.hold("Returns how many entries it finds", """
                -- all at all masters but their roots and those with links, each master coming from the one ahead
                each 1 2: link 0 # 0 = NONE
                follow 0 0 2 = 45
                link 0 3 101 = NONE
                link 1 3 0 = NONE
                follow 0 0 2 = 90
                link 1 47 102 = NONE
                link 2 47 0 = NONE
                link 2 46 103 = NONE
                link 3 46 0 = NONE
                -- three have links at the first one, two at the second and the third one, one at the last one
                follow 0 0 2 = 180
                """);
    }

    private static void followRefused() {
        SAYS.of("Promise 27", Preludes.TREE);
        SAYS.hold("if there is no such master, entry there, or scope", """
                each -1 4: follow # 0 0 = noSuch
                each 5 -1 LOST: follow 0 # 0 = noSuch
                follow 1 1 0 = noSuch
                each -1 3: follow 0 0 # = noSuch
                ofClass 0 = 1
                delete 0 4 = 1
                follow 0 4 0 = noSuch
                """);
        SAYS.hold("if the draft has not just one filter", """
                follow 0 0 2 = notTaken
                ofClass 0 = 1
                follow 0 0 2 = 4
                ofClass 0 = 2
                follow 0 0 2 = notTaken
                found 3 = 4
                """);
    }

    private static void found() {
        SAYS.of("Promise 28", Preludes.TOLD);
        SAYS.hold("Returns what the last search, by indexes or following, has found", """
                ofClass 0 = 1
                search 0 0 2 = 4
                found 0 = 1
                follow 1 4 0 = 1
                found 0 = 104
                search 2 3 0 = 1
                found 0 = 203
                searchByWalk 0 0 2 = 4
                found 0 = 203
                -- it stays, whatever becomes of the entry, the draft and the user
                delete 2 3 = 1
                wipe = 1
                serve 2 3 = 0
                found 0 = 203
                """);
        SAYS.hold("from 0", """
                ofClass 0 = 1
                search 0 0 2 = 4
                found 0 = 1
                found 3 = 4
                each -1 4 MIN MAX: found # = noSuch
                """);
        SAYS.hold("Returns 100 times the master, and the entry, together", """
                ofClass 0 = 1
                not = 1
                each 0 1 2 3: search # 0 0 = 1
                found 0 = 300
                search 0 0 0 = 1
                found 0 = 0
                not = 1
                search 3 0 2 = 4
                found 3 = 304
                """);
        SAYS.hold("if it has not found so many", """
                -- nothing was searched
                each 0 1 -1 MAX: found # = noSuch
                has 0 = 1
                search 0 0 2 = 0
                each 0 -1: found # = noSuch
                wipe = 1
                ofClass 0 = 1
                search 0 0 2 = 4
                found 3 = 4
                found 4 = noSuch
                -- a later search that finds less
                search 0 1 0 = 1
                found 1 = noSuch
                follow 0 3 1 = 0
                found 0 = noSuch
                """);
        SAYS.of("Promise 28", Preludes.FULL_TREE + "ofClass 0 = 1");
        SAYS.hold("Returns 100 times the master, and the entry, together", """
                search 3 0 2 = 47
                found 0 = 301
                found 46 = 347
                """);
    }
}
