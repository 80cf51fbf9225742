/** The sentences of the promises 16, 17 and 38 to 41: what masters exchange, and what is asked of them. */
final class PromisesOfMastersTest {
    private static final Sentences SAYS = new Sentences();

    private PromisesOfMastersTest() {
    }

    public static void main(String[] args) {
        exchange();
        exchangeOfMost();
        exchangeRefused();
        sweep();
        conflicts();
        knows();
        marks();
        areAlike();
        whatAlikeOnesShow();
        SAYS.end("PromisesOfMastersTest");
    }

    private static void exchange() {
        SAYS.of("Promise 16", Preludes.TREE);
        SAYS.hold("Lets a master get changes from another one", """
                exchange 0 1 250 = 4
                live 1 = 5
                areAlike 0 1 = true
                -- the one that gives gets nothing
                add 1 0 0 9 = 5
                exchange 0 1 250 = 0
                live 0 = 5
                knows 0 1 = 0
                """);
        SAYS.hold("`from`: 0 to 3", """
                exchange 0 3 250 = 4
                exchange 3 0 250 = 0
                each -1 4 MIN MAX: exchange # 1 250 = noSuch
                """);
        SAYS.hold("`to`: 0 to 3, another one: the master that gets them", """
                exchange 0 3 250 = 4
                exchange 1 0 250 = 0
                each -1 4 MIN MAX: exchange 1 # 250 = noSuch
                each 0 1 2 3: exchange # # 250 = outOfRange
                live 3 = 5
                """);
        SAYS.hold("Returns how many it gets", """
                exchange 1 0 250 = 0
                exchange 0 1 0 = 0
                exchange 0 1 1 = 1
                exchange 0 1 250 = 3
                exchange 0 1 250 = 0
                -- an empty log
                exchange 2 3 250 = 0
                """);
    }

    private static void exchangeOfMost() {
        SAYS.of("Promise 16", Preludes.FULL_LOG);
        SAYS.hold("`most`: 0 to 250: how many at most", """
                each -1 251 MIN MAX: exchange 0 1 # = outOfRange
                exchange 0 1 0 = 0
                exchange 0 1 250 = 250
                exchange 0 2 249 = 249
                linkOf 2 4 = 100
                exchange 0 2 250 = 1
                linkOf 2 4 = 101
                exchange 0 3 4 = 4
                live 3 = 5
                valuesAnew 3 1 0 = 0
                exchange 1 3 1 = 1
                valuesAnew 3 1 0 = 1
                exchange 2 3 250 = 245
                areAlike 0 3 = true
                """);
    }

    private static void exchangeRefused() {
        SAYS.of("Promise 16", Preludes.TREE);
        SAYS.hold("if there is no such master, of either", """
                each -1 4: exchange # 0 250 = noSuch
                each -1 4: exchange 0 # 250 = noSuch
                -- ahead of the other exception
                each -1 4: exchange # # 250 = noSuch
                each -1 251: exchange 0 4 # = noSuch
                each -1 251: exchange 4 0 # = noSuch
                live 1 = 1
                """);
        SAYS.hold("if both are the same, or most is out of range", """
                each 0 3: exchange # # 0 = outOfRange
                each 0 3: exchange # # 251 = outOfRange
                each -1 251: exchange 0 1 # = outOfRange
                live 1 = 1
                """);
    }

    private static void sweep() {
        SAYS.of("Promise 17", Preludes.TOLD + """
                delete 0 4 = 1
                delete 0 3 = 2
                for 1 3: exchange 0 # 250 = 2
                """);
        SAYS.hold("Lets a master sweep its marks", """
                marks 0 = 2
                sweep 0 = 2
                marks 0 = 0
                -- not those of others
                marks 3 = 2
                """);
        SAYS.hold("`master`: 0 to 3", """
                each 0 3: sweep # = 2
                each -1 4 MIN MAX: sweep # = noSuch
                """);
        SAYS.hold("Returns how many it drops", """
                -- the master 1 has not been told of 2 and 3
                sweep 1 = 0
                delete 0 2 = 3
                sweep 0 = 2
                sweep 0 = 0
                for 1 3: exchange 0 # 250 = 1
                sweep 0 = 1
                sweep 0 = 0
                """);
        SAYS.hold("if there is no such master", """
                each -1 4: sweep # = noSuch
                marks 0 = 2
                """);
    }

    private static void conflicts() {
        SAYS.of("Promise 38", Preludes.TOLD);
        SAYS.hold("Returns how many live entries clash, are orphans, or are incomplete at a master", """
                each 0 1 2: conflicts 0 # = 0
                -- one that is all of these at once
                draft 0 5 = 1
                draft 0 6 = 2
                add 3 4 1 9 = 5
                add 1 4 0 9 = 6
                exchange 3 0 250 = 1
                removeValue 3 5 0 5 = 1
                removeValue 0 5 0 6 = 1
                delete 2 4 = 1
                each 1 2 3: exchange # 0 250 = 1
                nameOf 0 5 = 105
                conflicts 0 0 = 1
                conflicts 0 1 = 2
                conflicts 0 2 = 1
                -- a deleted one is none of these
                delete 0 5 = 2
                conflicts 0 0 = 0
                conflicts 0 1 = 1
                conflicts 0 2 = 0
                """);
        SAYS.hold("`master`: 0 to 3", """
                each 0 3: conflicts # 0 = 0
                each -1 4 MIN MAX: conflicts # 0 = noSuch
                """);
        SAYS.hold("0 those that clash, 1 orphans, 2 incomplete ones", """
                each 0 2: conflicts 0 # = 0
                each -1 3 MIN MAX: conflicts 0 # = noSuch
                -- one clashes
                add 0 0 0 50 = 5
                add 1 0 0 50 = 6
                exchange 1 0 250 = 1
                conflicts 0 0 = 1
                each 1 2: conflicts 0 # = 0
                -- two are orphans
                delete 0 4 = 1
                each 7 8: add 1 4 0 # = #
                exchange 1 0 250 = 2
                conflicts 0 1 = 2
                conflicts 0 0 = 1
                conflicts 0 2 = 0
                """);
        SAYS.hold("Returns how many.", """
                each 0 1 2 3: add # 0 0 50
                each 1 2 3: exchange # 0 250 = 1
                conflicts 0 0 = 3
                each 1 2 3: conflicts # 0 = 0
                each 5 6 7: delete 0 #
                conflicts 0 0 = 0
                """);
        SAYS.hold("if there is no such master or sort", """
                each -1 4: conflicts # 3 = noSuch
                each -1 3: conflicts 3 # = noSuch
                """);
    }

    private static void knows() {
        SAYS.of("Promise 39", Preludes.FULL_LOG);
        SAYS.hold("Returns how many changes of a master a master knows", """
                knows 0 0 = 250
                knows 1 0 = 0
                knows 0 1 = 0
                exchange 0 1 1 = 1
                knows 1 0 = 1
                knows 1 1 = 0
                exchange 1 2 250 = 1
                exchange 0 2 248 = 248
                knows 2 0 = 249
                knows 2 1 = 0
                """);
        SAYS.hold("`master`: 0 to 3", """
                each 1 2 3: knows # 0 = 0
                knows 0 0 = 250
                each -1 4 MIN MAX: knows # 0 = noSuch
                """);
        SAYS.hold("`of`: 0 to 3: whose changes", """
                each 1 2 3: knows 0 # = 0
                knows 0 0 = 250
                each -1 4 MIN MAX: knows 0 # = noSuch
                """);
        SAYS.hold("Returns how many.", """
                each 0 1 2 3: knows 3 # = 0
                exchange 0 3 250 = 250
                knows 3 0 = 250
                each 1 2 3: knows 3 # = 0
                """);
        SAYS.hold("if there is no such master, of either", """
                each -1 4: knows # # = noSuch
                each -1 4: knows 0 # = noSuch
                each -1 4: knows # 0 = noSuch
                """);
    }

    private static void marks() {
        SAYS.of("Promise 40", Preludes.FULL_TREE);
        SAYS.hold("Returns how many marks of deleted entries a master has", """
                each 0 1 2 3: marks # = 0
                for 1 47: delete 0 # = #
                marks 0 = 47
                marks 1 = 0
                for 1 3: exchange 0 # 250 = 47
                each 0 1 2 3: marks # = 47
                sweep 3 = 47
                marks 3 = 0
                marks 0 = 47
                """);
        SAYS.hold("`master`: 0 to 3", """
                each 0 3: delete # 1 = 1
                each 0 3: marks # = 1
                each -1 4 MIN MAX: marks # = noSuch
                """);
        SAYS.hold("Returns how many.", """
                delete 0 1 = 1
                marks 0 = 1
                delete 0 2 = 2
                marks 0 = 2
                """);
        SAYS.hold("if there is no such master", """
                each -1 4: marks # = noSuch
                """);
    }

    private static void areAlike() {
        SAYS.of("Promise 41", Preludes.TREE);
        SAYS.hold("Tells whether two masters show the same", """
                areAlike 0 1 = false
                areAlike 1 2 = true
                exchange 0 1 3 = 3
                areAlike 0 1 = false
                exchange 0 1 250 = 1
                areAlike 0 1 = true
                areAlike 1 0 = true
                areAlike 1 2 = false
                -- what they know may be unlike
                rename 0 1 9 = 1
                rename 0 1 1 = 9
                areAlike 0 1 = true
                """);
        SAYS.hold("`one`: 0 to 3", """
                exchange 0 3 250 = 4
                each 0 3: areAlike # 0 = true
                each -1 4 MIN MAX: areAlike # 0 = noSuch
                """);
        SAYS.hold("`other`: 0 to 3", """
                exchange 0 3 250 = 4
                each 0 3: areAlike 0 # = true
                each -1 4 MIN MAX: areAlike 0 # = noSuch
                """);
        SAYS.hold("Returns whether they do", """
                each 0 1 2 3: areAlike # # = true
                areAlike 3 2 = true
                areAlike 3 0 = false
                """);
        SAYS.hold("if there is no such master, of either", """
                each -1 4: areAlike # # = noSuch
                each -1 4: areAlike 3 # = noSuch
                each -1 4: areAlike # 3 = noSuch
                """);
    }

    private static void whatAlikeOnesShow() {
        SAYS.of("Promise 41", Preludes.TOLD + """
                addValue 0 1 0 5 = 1
                exchange 0 1 250 = 1
                areAlike 0 1 = true
                """);
        SAYS.hold("the same live entries", """
                delete 0 4 = 1
                areAlike 0 1 = false
                delete 1 4 = 1
                areAlike 0 1 = true
                add 1 0 0 4 = 5
                areAlike 0 1 = false
                """);
        SAYS.hold("at the same places", """
                move 0 2 4 = 1
                areAlike 0 1 = false
                move 1 2 4 = 1
                areAlike 0 1 = true
                """);
        SAYS.hold("with the same names", """
                rename 0 1 9 = 1
                areAlike 0 1 = false
                rename 1 1 9 = 1
                areAlike 0 1 = true
                rename 1 4 0 = 4
                areAlike 0 1 = false
                """);
        SAYS.hold("names, classes, values", """
                -- classes cannot be changed; values differ by one, or by how many there are
                addValue 0 1 0 6 = 2
                areAlike 0 1 = false
                areAlike 1 0 = false
                addValue 1 1 0 7 = 2
                areAlike 0 1 = false
                removeValue 0 1 0 5 = 1
                removeValue 1 1 0 5 = 1
                areAlike 0 1 = false
                replace 0 1 0 7 = 1
                areAlike 0 1 = true
                addValue 0 1 1 30 = 1
                addValue 1 1 1 31 = 1
                areAlike 0 1 = false
                """);
        SAYS.hold("values, links", """
                -- the least code and the greatest one, of an entry and of the next one
                addValue 0 2 0 0 = 1
                addValue 0 2 3 999 = 1
                exchange 0 1 250 = 2
                areAlike 0 1 = true
                replace 0 2 3 998 = 1
                areAlike 0 1 = false
                replace 0 2 3 999 = 1
                areAlike 0 1 = true
                replace 0 2 0 1 = 1
                areAlike 0 1 = false
                areAlike 1 0 = false
                replace 1 2 0 1 = 1
                addValue 0 3 0 7 = 1
                addValue 1 3 0 8 = 1
                areAlike 0 1 = false
                -- the same values of unlike entries
                replace 1 3 0 7 = 1
                areAlike 0 1 = true
                removeValue 0 3 0 7 = 0
                addValue 0 4 0 7 = 1
                areAlike 0 1 = false
                """);
        SAYS.hold("the same live entries, at the same places", """
                -- what a deleted one had does not count
                rule 0 4 3 0 0 DENY = NOTHING
                rule 0 4 3 2 1 ALLOW = NOTHING
                addValue 0 4 0 0 = 1
                each 0 1: delete # 4 = 1
                areAlike 0 1 = true
                rule 0 3 3 0 0 DENY = NOTHING
                each 0 1: delete # 3 = 2
                areAlike 0 1 = true
                """);
        SAYS.hold("and rules", """
                for 0 2: rule 0 1 3 # 0 DENY = NOTHING
                areAlike 0 1 = false
                for 1 2: rule 0 1 3 # 0 NOTHING = DENY
                areAlike 0 1 = false
                rule 0 1 3 0 0 NOTHING = DENY
                areAlike 0 1 = true
                rule 0 1 3 2 1 DENY = NOTHING
                areAlike 0 1 = false
                rule 1 1 3 2 1 ALLOW = NOTHING
                areAlike 0 1 = false
                rule 1 1 3 2 1 DENY = ALLOW
                areAlike 0 1 = true
                rule 0 4 ALL 0 1 ALLOW = NOTHING
                areAlike 0 1 = false
                rule 1 4 3 0 1 ALLOW = NOTHING
                areAlike 0 1 = false
                """);
        SAYS.hold("links and rules", """
                link 0 1 4 = NONE
                areAlike 0 1 = false
                link 1 1 104 = noSuch
                link 1 1 100 = NONE
                areAlike 0 1 = false
                link 1 1 4 = 100
                areAlike 0 1 = true
                rule 0 0 3 2 0 DENY = NOTHING
                areAlike 0 1 = false
                rule 1 0 3 2 0 ALLOW = NOTHING
                areAlike 0 1 = false
                rule 1 0 3 2 0 DENY = ALLOW
                areAlike 0 1 = true
                rule 0 3 104 0 1 ALLOW = NOTHING
                areAlike 0 1 = false
                rule 0 3 104 0 1 NOTHING = ALLOW
                areAlike 0 1 = true
                """);
        SAYS.of("Promise 41", Preludes.FULL_TREE);
        SAYS.hold("names, classes, values", """
                -- the last value of the last attribute of the last entry
                addValue 0 47 9 999 = 1
                areAlike 0 1 = false
                areAlike 1 0 = false
                exchange 0 1 250 = 1
                areAlike 0 1 = true
                addValue 0 47 9 998 = 2
                removeValue 0 47 9 999 = 1
                areAlike 0 1 = false
                addValue 1 47 9 998 = 2
                areAlike 0 1 = false
                removeValue 1 47 9 999 = 1
                areAlike 0 1 = true
                """);
    }
}
