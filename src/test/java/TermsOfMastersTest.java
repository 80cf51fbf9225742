/** The sentences of the terms that tell what masters do: which operations they take, and what they exchange. */
final class TermsOfMastersTest {
    private static final Sentences SAYS = new Sentences();

    private TermsOfMastersTest() {
    }

    public static void main(String[] args) {
        served();
        liveOnes();
        rightsToWrite();
        names();
        draftedValues();
        valueOperations();
        renames();
        moves();
        deletions();
        links();
        got();
        told();
        toldOfOthers();
        marks();
        marksOfAll();
        unlikeDeletes();
        droppedMarks();
        SAYS.end("TermsOfMastersTest");
    }

    private static void served() {
        SAYS.of("Operations", Preludes.TOLD);
        SAYS.hold("Each master serves a user, the user 0 at first", """
                -- each may write at first, and not for another user, who may read alone
                each 0 1 2 3: rename # 1 9 = 1
                each 0 1 2 3: serve # 5 = 0
                each 0 1 2 3: rename # 1 1 = notTaken
                serve 2 0 = 5
                rename 2 1 1 = 9
                each 0 1 3: rename # 1 1 = notTaken
                """);
    }

    private static void liveOnes() {
        SAYS.of("Operations", Preludes.TOLD + """
                add 1 0 0 6 = 5
                delete 0 4 = 1
                """);
        SAYS.hold("An operation is taken, if entries that it tells are live at the master", """
                -- deleted, live at another master alone, not there yet, never there
                each 4 5 6 48 -1 LOST: add 0 # 0 9 = noSuch
                each 4 5 6 48 -1 LOST: addValue 0 # 0 9 = noSuch
                each 4 5 6 48 -1 LOST: removeValue 0 # 0 9 = noSuch
                each 4 5 6 48 -1 LOST: replace 0 # 0 9 = noSuch
                each 4 5 6 48 -1 LOST: rename 0 # 9 = noSuch
                each 4 5 6 48 -1 LOST: move 0 # 0 = noSuch
                each 4 5 6 48 -1 LOST: move 0 1 # = noSuch
                each 4 5 6 48 -1 LOST: delete 0 # = noSuch
                each 4 5 6 48 -1 LOST: link 0 # 1 = noSuch
                each 4 5 6 48 LOST: link 0 1 # = noSuch
                each 4 5 6 48 -1 LOST: rule 0 # 3 0 0 DENY = noSuch
                each 104 105 106 148: rule 0 1 # 0 0 DENY = noSuch
                -- where they are live, they are taken
                addValue 1 4 0 9 = 1
                move 1 1 5 = 0
                link 1 4 5 = NONE
                rule 1 1 104 0 0 DENY = NOTHING
                """);
    }

    private static void rightsToWrite() {
        // The user 3 may write on the entry 2 alone.
        SAYS.of("Operations", Preludes.TREE + """
                addValue 0 2 0 5 = 1
                addValue 0 1 0 5 = 1
                rule 0 2 3 0 1 ALLOW = NOTHING
                serve 0 3 = 0
                """);
        SAYS.hold("the user has the right to write: on the parent for add()", """
                each 0 1 3 4: add 0 # 0 9 = notTaken
                add 0 2 0 9 = 5
                -- and not on the one that was added
                rename 0 5 10 = notTaken
                """);
        SAYS.hold("on the entry for others", """
                addValue 0 1 0 6 = notTaken
                addValue 0 2 0 6 = 2
                removeValue 0 1 0 5 = notTaken
                removeValue 0 2 0 5 = 1
                replace 0 1 0 6 = notTaken
                replace 0 2 0 7 = 1
                rename 0 1 9 = notTaken
                rename 0 2 9 = 2
                link 0 1 2 = notTaken
                link 0 2 1 = NONE
                each 0 1: rule 0 # 4 0 0 DENY = notTaken
                rule 0 2 4 0 0 DENY = NOTHING
                delete 0 4 = notTaken
                delete 0 3 = notTaken
                -- the parent's right does not help, nor does the children's
                rule 0 2 3 1 1 ALLOW = NOTHING
                rule 0 2 3 0 1 NOTHING = ALLOW
                rename 0 2 10 = notTaken
                delete 0 3 = 1
                """);
        SAYS.hold("and on the new parent, too, for move()", """
                -- on the entry alone, on the new parent alone, on both
                move 0 2 4 = notTaken
                move 0 4 2 = notTaken
                rule 0 2 3 2 1 ALLOW = NOTHING
                move 0 3 0 = notTaken
                serve 0 0 = 3
                rule 0 4 3 0 1 ALLOW = NOTHING
                serve 0 3 = 0
                move 0 2 4 = 1
                -- the old parent does not count
                move 0 2 1 = notTaken
                """);
    }

    private static void names() {
        SAYS.of("Operations", Preludes.TREE);
        SAYS.hold("no sibling that the new one would have is shown with the name", """
                add 0 0 0 1 = notTaken
                add 0 0 0 4 = notTaken
                -- at another place, or deleted, or shown with another name
                add 0 0 0 2 = 5
                add 0 4 0 1 = 6
                delete 0 3 = 1
                add 0 2 0 3 = 7
                rename 0 1 9 = 1
                add 0 0 0 1 = 8
                """);
        SAYS.hold("no sibling that the new one would have", """
                -- of two with the name one is shown with it, and another place is no hindrance
                add 1 0 0 1 = 5
                exchange 1 0 250 = 1
                nameOf 0 5 = 105
                add 0 0 0 1 = notTaken
                delete 0 5 = 1
                add 0 0 0 1 = notTaken
                add 0 0 0 0 = 6
                add 0 0 0 99 = 7
                """);
    }

    private static void draftedValues() {
        SAYS.of("Operations", Preludes.SCHEMA);
        SAYS.hold("the drafted values are of attributes that are allowed by the class", """
                draft 4 5 = 1
                add 0 0 0 1 = notTaken
                undraft = 1
                draft 3 5 = 1
                add 0 0 2 1 = notTaken
                add 0 0 0 1 = 1
                """);
        SAYS.hold("at most one for each single one", """
                draft 2 5 = 1
                draft 2 6 = 2
                add 0 0 0 1 = notTaken
                undraft = 2
                draft 3 5 = 1
                draft 3 50 = 2
                add 0 0 0 1 = notTaken
                undraft = 2
                draft 2 5 = 1
                draft 3 5 = 2
                add 0 0 0 1 = 1
                """);
        SAYS.hold("no two of one attribute match", """
                draft 0 5 = 1
                draft 1 5 = 2
                draft 0 5 = 3
                add 0 0 0 1 = notTaken
                undraft = 3
                draft 1 40 = 1
                draft 0 40 = 2
                draft 1 49 = 3
                add 0 0 0 1 = notTaken
                undraft = 3
                -- 49 and 50, and the same value of two attributes, do not
                draft 1 50 = 1
                draft 0 49 = 2
                draft 1 49 = 3
                draft 0 50 = 4
                add 0 0 0 1 = 1
                """);
        SAYS.hold("no two of one attribute match, and", """
                -- the first one and the last one of twelve
                for 1 11: draft 0 # = #
                draft 0 1 = 12
                add 0 0 0 1 = notTaken
                undraft = 12
                for 1 12: draft 0 # = #
                add 0 0 0 1 = 1
                """);
        SAYS.hold("there is one of each required attribute", """
                objectClass 1 10 0 = 3
                draft 0 1 = 1
                draft 1 1 = 2
                add 0 0 3 1 = notTaken
                draft 3 1 = 3
                add 0 0 3 1 = 1
                draft 1 1 = 1
                draft 3 1 = 2
                add 0 0 3 2 = notTaken
                draft 0 1 = 3
                draft 0 2 = 4
                add 0 0 3 2 = 2
                """);
    }

    private static void valueOperations() {
        SAYS.of("Operations", Preludes.SCHEMA + """
                draft 0 5 = 1
                add 0 0 1 1 = 1
                add 0 0 2 2 = 2
                """);
        SAYS.hold("addValue(): the attribute is allowed by the class", """
                addValue 0 1 3 0 = 1
                addValue 0 1 4 0 = notTaken
                for 0 4: addValue 0 2 # 0 = notTaken
                """);
        SAYS.hold("the entry has no value of it that matches, and none at all, if it is single", """
                addValue 0 1 0 5 = notTaken
                addValue 0 1 0 4 = 2
                addValue 0 1 1 999 = 1
                addValue 0 1 1 990 = notTaken
                addValue 0 1 1 989 = 2
                each 2 3: addValue 0 1 # 0 = 1
                each 2 3: addValue 0 1 # 999 = notTaken
                removeValue 0 1 2 0 = 0
                addValue 0 1 2 999 = 1
                """);
        SAYS.hold("removeValue(): the entry has a value that matches", """
                each 4 6: removeValue 0 1 0 # = notTaken
                removeValue 0 1 1 5 = notTaken
                addValue 0 1 1 50 = 1
                each 49 60: removeValue 0 1 1 # = notTaken
                removeValue 0 1 1 59 = 0
                removeValue 0 1 1 59 = notTaken
                """);
        SAYS.hold("and another one of this attribute, if that is required by its class", """
                removeValue 0 1 0 5 = notTaken
                addValue 0 1 0 6 = 2
                removeValue 0 1 0 5 = 1
                removeValue 0 1 0 6 = notTaken
                -- one of another attribute does not do; and what is allowed alone goes
                addValue 0 1 1 6 = 1
                removeValue 0 1 0 6 = notTaken
                removeValue 0 1 1 6 = 0
                """);
        SAYS.hold("replace(): the attribute is allowed by the class", """
                each 1 2 3: replace 0 1 # 999 = 0
                each 1 2 3: replace 0 1 # 0 = 1
                replace 0 1 0 5 = 1
                replace 0 1 4 5 = notTaken
                for 0 4: replace 0 2 # 5 = notTaken
                """);
    }

    private static void renames() {
        SAYS.of("Operations", Preludes.TREE);
        SAYS.hold("rename(): no sibling but itself is shown with the name", """
                rename 0 1 4 = notTaken
                rename 0 1 1 = 1
                rename 0 1 3 = 1
                rename 0 4 1 = 4
                rename 0 1 1 = notTaken
                """);
        SAYS.hold("no sibling but itself", """
                -- the one that clashes may not have the name, the one that is shown with it may
                add 1 0 0 4 = 5
                exchange 1 0 250 = 1
                nameOf 0 4 = 104
                rename 0 4 4 = notTaken
                rename 0 5 4 = 4
                rename 0 5 5 = 4
                nameOf 0 4 = 4
                rename 0 4 4 = 4
                """);
    }

    private static void moves() {
        SAYS.of("Operations", Preludes.TREE);
        SAYS.hold("move(): the new parent is not the entry itself", """
                for 1 4: move 0 # # = notTaken
                """);
        SAYS.hold("and one does not come to the entry from it, as told for MOVE", """
                each 2 3: move 0 1 # = notTaken
                move 0 2 3 = notTaken
                -- upwards, beside, and to where it is
                move 0 3 1 = 2
                move 0 3 2 = 1
                move 0 2 4 = 1
                move 0 2 4 = 4
                move 0 1 3 = 0
                """);
        SAYS.hold("as told for MOVE", """
                -- over a deleted one, too: 5 is at 3, which is deleted, and at 2, and at 1
                exchange 0 1 250 = 4
                delete 0 3 = 1
                add 1 3 0 5 = 5
                exchange 1 0 250 = 1
                parentOf 0 5 = LOST
                each 1 2: move 0 # 5 = notTaken
                move 0 4 5 = 0
                """);
        SAYS.hold("no live entry at the new parent but itself is shown with the name that the entry has", """
                add 0 1 0 4 = 5
                move 0 4 1 = notTaken
                move 0 5 0 = notTaken
                move 0 4 2 = 0
                move 0 5 0 = 1
                move 0 5 0 = 0
                -- a deleted one is no hindrance
                delete 0 5 = 1
                move 0 4 0 = 2
                """);
        SAYS.hold("the name that the entry has without clashes", """
                add 1 0 0 4 = 5
                exchange 1 0 250 = 1
                nameOf 0 4 = 104
                add 0 1 0 4 = 6
                -- there 6 is shown with the name 4; where it is, 5 is
                each 0 1: move 0 4 # = notTaken
                move 0 5 0 = 0
                move 0 4 3 = 0
                nameOf 0 4 = 4
                """);
    }

    private static void deletions() {
        SAYS.of("Operations", Preludes.TREE);
        SAYS.hold("delete(): no live entry is shown at it", """
                each 1 2: delete 0 # = notTaken
                delete 0 3 = 1
                delete 0 1 = notTaken
                move 0 2 0 = 1
                delete 0 1 = 2
                -- the one that is at a deleted one is shown at LOST, so the deleted one is no hindrance
                exchange 0 1 250 = 7
                delete 0 2 = 3
                add 1 2 0 5 = 5
                add 1 5 0 6 = 6
                exchange 1 0 250 = 2
                delete 0 5 = notTaken
                delete 0 6 = 4
                delete 0 5 = 5
                """);
    }

    private static void links() {
        SAYS.of("Operations", Preludes.TREE);
        SAYS.hold("link(): the entry that an alias tells is live, and another one", """
                link 0 1 5 = noSuch
                link 0 1 1 = notTaken
                link 0 1 0 = NONE
                link 0 1 2 = 0
                link 0 2 1 = NONE
                delete 0 4 = 1
                link 0 1 4 = noSuch
                -- a referral may tell the master itself, or one at which it is not live
                each 100 101 102 103: link 0 3 #
                link 0 1 NONE = 2
                link 0 1 NONE = NONE
                """);
    }

    private static void got() {
        SAYS.of("Exchange", Preludes.TREE);
        SAYS.hold("it gets those that the other one knows, and it does not", """
                exchange 1 0 250 = 0
                exchange 0 1 250 = 4
                exchange 0 1 250 = 0
                exchange 1 0 250 = 0
                add 1 0 0 9 = 5
                add 0 0 0 8 = 6
                exchange 0 1 250 = 1
                exchange 1 0 250 = 1
                -- those of others, too, and none twice
                exchange 0 2 250 = 6
                exchange 1 2 250 = 0
                """);
        SAYS.hold("in order", """
                -- by stamps, then by masters: 1,0 1,1 2,0 2,1 3,0 4,0
                add 1 0 0 7 = 5
                add 1 0 0 8 = 6
                exchange 1 0 250 = 2
                exchange 0 3 1 = 1
                nameOf 3 1 = 1
                nameOf 3 5 = noSuch
                exchange 0 3 1 = 1
                nameOf 3 5 = 7
                nameOf 3 2 = noSuch
                exchange 0 3 1 = 1
                nameOf 3 2 = 2
                nameOf 3 6 = noSuch
                exchange 0 3 1 = 1
                nameOf 3 6 = 8
                nameOf 3 3 = noSuch
                exchange 0 3 250 = 2
                nameOf 3 4 = 4
                """);
        SAYS.hold("in order, as many", """
                -- the first one in order was made last
                add 3 0 0 7 = 5
                add 2 0 0 8 = 6
                exchange 3 1 250 = 1
                exchange 2 1 250 = 1
                exchange 0 1 250 = 4
                exchange 1 2 1 = 1
                nameOf 2 1 = 1
                exchange 1 3 2 = 2
                nameOf 3 6 = 8
                nameOf 3 2 = noSuch
                """);
        SAYS.of("Exchange", Preludes.SCHEMA);
        SAYS.hold("in order, as many", """
                -- the first one of all was made last
                add 3 0 0 7 = 1
                add 0 0 0 8 = 2
                exchange 3 1 250 = 1
                exchange 0 1 250 = 1
                exchange 1 2 1 = 1
                nameOf 2 2 = 8
                nameOf 2 1 = noSuch
                """);
        SAYS.of("Exchange", Preludes.TREE);
        SAYS.hold("as many as are told at most", """
                exchange 0 1 0 = 0
                live 1 = 1
                exchange 0 1 3 = 3
                live 1 = 4
                exchange 0 1 1 = 1
                exchange 0 1 1 = 0
                exchange 0 2 4 = 4
                exchange 0 3 5 = 4
                """);
    }

    private static void told() {
        // The master 0 has deleted its entry 1; it can drop the mark as soon as it is told that all know of that.
        SAYS.of("Exchange", """
                objectClass NONE 0 0 = 0
                add 0 0 0 1 = 1
                delete 0 1 = 1
                """);
        SAYS.hold("Then both tell one another, how many changes of each master each one knows", """
                -- the giver is told what the getter knows, behind what that got
                exchange 0 1 250 = 2
                exchange 0 2 250 = 2
                exchange 0 3 1 = 1
                sweep 0 = 0
                exchange 0 3 1 = 1
                sweep 0 = 1
                -- the getter is told what the giver knows
                sweep 3 = 1
                """);
        SAYS.hold("each one knows", """
                -- a getter that had all tells so, also where nothing is got, or asked for
                exchange 0 1 250 = 2
                exchange 0 2 250 = 2
                exchange 1 3 250 = 2
                sweep 0 = 0
                exchange 0 3 0 = 0
                sweep 0 = 1
                sweep 1 = 0
                exchange 2 1 250 = 0
                sweep 1 = 1
                """);
        SAYS.hold("so that both know the most of it", """
                -- what was told earlier is not forgotten
                exchange 0 1 250 = 2
                exchange 0 2 250 = 2
                exchange 0 3 250 = 2
                add 1 0 0 5 = 2
                exchange 1 2 250 = 1
                exchange 2 1 250 = 0
                exchange 2 0 250 = 1
                sweep 0 = 1
                -- 1 is told by 2, which was told by 0 before that told 3
                sweep 1 = 0
                exchange 2 1 0 = 0
                sweep 1 = 1
                """);
    }

    private static void toldOfOthers() {
        SAYS.of("Exchange", """
                objectClass NONE 0 0 = 0
                add 0 0 0 1 = 1
                delete 0 1 = 1
                """);
        SAYS.hold("and what each was told so of others", """
                -- each master passes on: the last one was told of all, the first one of the next one alone
                exchange 0 1 250 = 2
                exchange 1 2 250 = 2
                exchange 2 3 250 = 2
                sweep 3 = 1
                sweep 2 = 1
                each 0 1: sweep # = 0
                exchange 2 0 0 = 0
                sweep 0 = 1
                sweep 1 = 0
                exchange 1 0 0 = 0
                sweep 1 = 1
                """);
        SAYS.hold("what each was told so of others", """
                -- the giver is told by the getter of others, too
                exchange 0 1 250 = 2
                exchange 0 2 250 = 2
                exchange 2 3 250 = 2
                sweep 0 = 0
                exchange 0 2 0 = 0
                sweep 0 = 1
                """);
    }

    private static void marks() {
        SAYS.of("Exchange", Preludes.TOLD);
        SAYS.hold("A master keeps a mark of each entry that it knows to be deleted, until it sweeps", """
                each 0 1 2 3: marks # = 0
                each 0 1 2 3: sweep # = 0
                delete 0 4 = 1
                marks 0 = 1
                delete 0 3 = 2
                marks 1 = 0
                exchange 0 1 1 = 1
                marks 1 = 1
                exchange 0 1 250 = 1
                marks 1 = 2
                exchange 0 2 250 = 2
                exchange 0 3 250 = 2
                -- all know of it, and the marks stay until the sweep
                marks 0 = 2
                sweep 0 = 2
                marks 0 = 0
                marks 3 = 2
                """);
        SAYS.hold("A master keeps a mark of each entry", """
                -- one for each entry, whoever deleted it
                delete 0 4 = 1
                delete 1 4 = 1
                delete 2 4 = 1
                exchange 1 0 250 = 1
                exchange 2 0 250 = 1
                marks 0 = 1
                delete 0 3 = 2
                """);
    }

    private static void marksOfAll() {
        SAYS.of("Exchange", Preludes.TOLD + "delete 0 4 = 1");
        SAYS.hold("of which each of the four masters, by what it knows of them", """
                -- one, two, three, and all four of them know
                sweep 0 = 0
                exchange 0 3 250 = 1
                sweep 0 = 0
                exchange 0 1 250 = 1
                sweep 0 = 0
                exchange 3 2 250 = 1
                -- now all know, but 0 does not know that 2 does
                sweep 0 = 0
                exchange 2 0 0 = 0
                sweep 0 = 1
                """);
        SAYS.hold("it drops the marks of those of which each", """
                -- and not of others
                delete 0 3 = 2
                exchange 0 1 250 = 2
                exchange 0 2 250 = 2
                exchange 0 3 1 = 1
                sweep 0 = 1
                marks 0 = 1
                exchange 0 3 1 = 1
                sweep 0 = 1
                marks 0 = 0
                sweep 0 = 0
                """);
    }

    private static void unlikeDeletes() {
        SAYS.of("Exchange", Preludes.TOLD + "delete 0 4 = 1");
        SAYS.hold("knows some DELETE that it knows itself, perhaps unlike ones for unlike masters", """
                -- 0 and 2 know that of 0, 1 and 3 know that of 1
                delete 1 4 = 1
                exchange 0 2 250 = 1
                exchange 1 3 250 = 1
                exchange 2 3 0 = 0
                -- 3 is told of all, but knows of the DELETE of 1 alone; with that of 0 it knows both
                sweep 3 = 0
                sweep 2 = 0
                exchange 2 3 250 = 1
                sweep 3 = 1
                marks 3 = 0
                """);
        SAYS.hold("perhaps unlike ones for unlike masters", """
                -- each master has its own DELETE, and the last one gets those of all
                for 1 3: delete # 4 = 1
                exchange 0 3 250 = 1
                exchange 1 3 250 = 1
                sweep 3 = 0
                exchange 2 3 250 = 1
                sweep 3 = 1
                each 0 1 2: sweep # = 0
                """);
        SAYS.hold("some DELETE that it knows itself", """
                -- a change that is no DELETE, and a DELETE of another entry, are none
                rename 1 4 50 = 4
                delete 2 3 = 1
                rename 3 4 60 = 4
                exchange 1 0 250 = 1
                exchange 2 0 250 = 1
                exchange 3 0 250 = 1
                sweep 0 = 0
                marks 0 = 2
                """);
    }

    private static void droppedMarks() {
        SAYS.of("Exchange", Preludes.TOLD + """
                delete 3 4 = 1
                delete 0 4 = 1
                exchange 0 1 250 = 1
                exchange 0 2 250 = 1
                exchange 0 3 250 = 1
                sweep 0 = 1
                """);
        SAYS.hold("Dropped marks do not come back", """
                exchange 3 0 250 = 1
                marks 0 = 0
                sweep 0 = 0
                -- nor do they count behind a further deletion
                delete 0 3 = 1
                marks 0 = 1
                -- another master drops its own
                marks 3 = 1
                sweep 3 = 1
                """);
    }
}
