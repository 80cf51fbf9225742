/** Promises 16, 17 and 38 to 41: what masters exchange, and how all settle it in the same way. */
final class ExchangeTest {
    private ExchangeTest() {
    }

    /** Attributes: 0 exact, 1 by tens, 2 single. Class 1 requires 0. */
    private static MasterTree start() {
        MasterTree x = new MasterTree();
        x.attribute(false, false);
        x.attribute(false, true);
        x.attribute(true, false);
        x.objectClass(-1, 0, 7);
        x.objectClass(0, 1, 0);
        return x;
    }

    private static void both(MasterTree x, int one, int other) {
        x.exchange(one, other, 250);
        x.exchange(other, one, 250);
    }

    public static void main(String[] args) {
        exchange();
        exchangeInOrder();
        stamps();
        values();
        removals();
        namesAndLinks();
        rings();
        deletedOnTheWay();
        orphans();
        incomplete();
        sweep();
        sweepByUnlikeDeletes();
        sweepByHearsay();
        deletedTwice();
        areAlike();
        alikeRules();
        alikeByWhatIsShown();
        wrongMasters();
        Checks.end("ExchangeTest");
    }

    private static void exchange() {
        MasterTree x = start();
        x.add(0, 0, 0, 1);
        x.add(0, 0, 0, 2);
        Checks.noSuch("no master 4 to give", () -> x.exchange(4, 0, 0));
        Checks.noSuch("no master -1 to get", () -> x.exchange(0, -1, 0));
        Checks.noSuch("no such master, and both the same", () -> x.exchange(4, 4, 251));
        Checks.outOfRange("both the same", () -> x.exchange(1, 1, 1));
        Checks.outOfRange("251 at most", () -> x.exchange(0, 1, 251));
        Checks.outOfRange("-1 at most", () -> x.exchange(0, 1, -1));
        Checks.is("none is asked for", x.exchange(0, 1, 0), 0);
        Checks.is("wrong calls gave nothing", x.live(1), 1);
        Checks.is("one is asked for", x.exchange(0, 1, 1), 1);
        Checks.is("the first one is there", x.nameOf(1, 1), 1);
        Checks.noSuch("the second one is not", () -> x.nameOf(1, 2));
        Checks.is("knows", x.knows(1, 0), 1);
        Checks.is("the other one is got", x.exchange(0, 1, 250), 1);
        Checks.is("nothing is left", x.exchange(0, 1, 250), 0);
        Checks.is("nothing comes back", x.exchange(1, 0, 250), 0);
        x.add(1, 1, 0, 3);
        Checks.is("what others gave is given on", x.exchange(1, 2, 250), 3);
        Checks.is("knows of 0", x.knows(2, 0), 2);
        Checks.is("knows of 1", x.knows(2, 1), 1);
        Checks.is("knows of itself", x.knows(2, 2), 0);
        Checks.is("the giver gets nothing", x.knows(0, 1), 0);
        Checks.is("alike", x.areAlike(1, 2), true);
        Checks.is("not alike", x.areAlike(0, 2), false);
    }

    private static void exchangeInOrder() {
        MasterTree x = start();
        x.add(0, 0, 0, 1);
        x.add(0, 0, 0, 2);
        x.add(1, 0, 0, 3);
        x.add(1, 0, 0, 4);
        both(x, 0, 2);
        x.exchange(1, 2, 250);
        int[] inOrder = {1, 3, 2, 4};
        for (int count = 0; count < 4; count++) {
            int next = inOrder[count];
            Checks.noSuch("it is not there yet", () -> x.nameOf(3, next));
            Checks.is("one more, by stamps, then by masters", x.exchange(2, 3, 1), 1);
            Checks.is("it is there", x.nameOf(3, next), next);
        }
        Checks.is("no more", x.exchange(2, 3, 1), 0);
    }

    /** The stamp is 1 more than the greatest known one, also behind changes of others. */
    private static void stamps() {
        MasterTree x = start();
        x.draft(2, 1);
        x.add(3, 0, 0, 1);
        x.exchange(3, 0, 250);
        x.exchange(3, 1, 250);
        x.replace(1, 1, 2, 10);
        x.replace(1, 1, 2, 11);
        x.replace(0, 1, 2, 20);
        both(x, 0, 1);
        Checks.is("the greater stamp comes last", x.valueAt(0, 1, 2, 0), 11);
        x.replace(0, 1, 2, 30);
        both(x, 0, 1);
        Checks.is("what is known is behind", x.valueAt(1, 1, 2, 0), 30);
        x.replace(1, 1, 2, 41);
        x.replace(0, 1, 2, 40);
        both(x, 0, 1);
        Checks.is("of the same stamp the greater master comes last", x.valueAt(0, 1, 2, 0), 41);
        Checks.is("at both", x.valueAt(1, 1, 2, 0), 41);
    }

    private static void values() {
        MasterTree x = start();
        x.add(0, 0, 0, 1);
        x.exchange(0, 1, 250);
        x.addValue(0, 1, 0, 5);
        x.addValue(1, 1, 0, 5);
        x.addValue(0, 1, 1, 31);
        x.addValue(1, 1, 1, 38);
        x.addValue(0, 1, 2, 7);
        x.addValue(1, 1, 2, 8);
        both(x, 0, 1);
        for (int master = 0; master < 2; master++) {
            Checks.is("the same value is there once", x.valueAt(master, 1, 0, 1), MasterTree.NONE);
            Checks.is("one that matches goes", x.valueAt(master, 1, 1, 0), 38);
            Checks.is("it goes", x.valueAt(master, 1, 1, 1), MasterTree.NONE);
            Checks.is("the values of a single one go", x.valueAt(master, 1, 2, 0), 8);
            Checks.is("they go", x.valuesAnew(master, 1, 2), 1);
        }
        x.addValue(1, 1, 0, 6);
        x.replace(0, 1, 0, 9);
        both(x, 0, 1);
        Checks.is("a replacement ahead of a value lets this be", x.valueAt(0, 1, 0, 0), 6);
        Checks.is("both are there", x.valueAt(0, 1, 0, 1), 9);
        x.addValue(0, 1, 0, 4);
        x.replace(1, 1, 0, 3);
        both(x, 0, 1);
        Checks.is("a replacement behind a value takes it", x.valueAt(0, 1, 0, 0), 3);
        Checks.is("it alone is there", x.valueAt(0, 1, 0, 1), MasterTree.NONE);
    }

    private static void removals() {
        MasterTree x = start();
        x.draft(1, 31);
        x.add(0, 0, 0, 1);
        x.exchange(0, 1, 250);
        x.replace(0, 1, 1, 35);
        x.removeValue(1, 1, 1, 39);
        both(x, 0, 1);
        Checks.is("a removal takes what matches then", x.valueAt(0, 1, 1, 0), MasterTree.NONE);
        x.addValue(0, 1, 1, 50);
        both(x, 0, 1);
        x.removeValue(0, 1, 1, 50);
        x.removeValue(1, 1, 1, 50);
        x.addValue(1, 1, 1, 51);
        both(x, 0, 1);
        Checks.is("what comes behind the removals stays", x.valueAt(0, 1, 1, 0), 51);
        Checks.is("at both", x.valueAt(1, 1, 1, 0), 51);
    }

    private static void namesAndLinks() {
        MasterTree x = start();
        x.add(0, 0, 0, 1);
        x.add(0, 0, 0, 2);
        x.exchange(0, 1, 250);
        x.rename(0, 1, 11);
        x.rename(1, 1, 12);
        x.link(0, 1, 2);
        x.link(1, 1, 102);
        both(x, 0, 1);
        Checks.is("the last name", x.nameOf(0, 1), 12);
        Checks.is("the last link", x.linkOf(0, 1), 102);
        x.rename(0, 1, 20);
        x.rename(1, 2, 20);
        both(x, 0, 1);
        Checks.is("the one that was added first has the name", x.nameOf(0, 1), 20);
        Checks.is("the other one clashes", x.nameOf(0, 2), 102);
        Checks.is("one clashes", x.conflicts(1, 0), 1);
        x.move(0, 1, 2);
        Checks.is("no clash at unlike places", x.nameOf(0, 2), 20);
        x.exchange(0, 1, 250);
        x.delete(1, 1);
        Checks.is("nor with deleted ones", x.conflicts(1, 0), 0);
        threeWithOneName();
    }

    private static void threeWithOneName() {
        MasterTree x = start();
        x.add(2, 0, 0, 7);
        x.add(1, 0, 0, 7);
        x.add(0, 0, 0, 6);
        x.add(0, 0, 0, 7);
        both(x, 0, 1);
        both(x, 0, 2);
        Checks.is("the stamp 1 of the master 1 comes first", x.nameOf(0, 2), 7);
        Checks.is("the stamp 1 of the master 2 clashes", x.nameOf(0, 1), 101);
        Checks.is("the stamp 2 clashes", x.nameOf(0, 4), 104);
        Checks.is("two clash", x.conflicts(0, 0), 2);
        Checks.is("by rising shown names", x.childAt(0, 0, 0), 3);
        Checks.is("by rising shown names", x.childAt(0, 0, 1), 2);
        Checks.is("by rising shown names", x.childAt(0, 0, 2), 1);
        Checks.is("by rising shown names", x.childAt(0, 0, 3), 4);
        x.delete(0, 2);
        Checks.is("then the next one has the name", x.nameOf(0, 1), 7);
        Checks.is("the last one clashes still", x.nameOf(0, 4), 104);
    }

    private static void rings() {
        MasterTree x = start();
        x.add(0, 0, 0, 1);
        x.add(0, 0, 0, 2);
        x.add(0, 1, 0, 3);
        x.exchange(0, 1, 250);
        x.move(0, 2, 3);
        x.move(1, 1, 2);
        both(x, 0, 1);
        for (int master = 0; master < 2; master++) {
            Checks.is("the first move is done", x.parentOf(master, 2), 3);
            Checks.is("the other one would make a ring", x.parentOf(master, 1), 0);
            Checks.is("the same anew", x.parentAnew(master, 1), 0);
            Checks.is("the same anew", x.parentAnew(master, 2), 3);
        }
        Checks.is("alike", x.areAlike(0, 1), true);
    }

    /** A move that makes no ring only if a change that comes ahead of it is got later. */
    private static void deletedOnTheWay() {
        MasterTree x = start();
        x.add(0, 0, 0, 1);
        x.add(0, 0, 0, 2);
        x.add(0, 2, 0, 3);
        x.exchange(0, 1, 250);
        x.exchange(0, 2, 250);
        x.move(1, 3, 0);
        x.move(1, 2, 1);
        x.delete(1, 2);
        x.move(2, 1, 3);
        both(x, 1, 2);
        Checks.is("both moves are done", x.parentOf(2, 1), 3);
        Checks.is("as 3 went first", x.parentOf(2, 3), 0);
        Checks.is("alike", x.areAlike(1, 2), true);
        x.exchange(2, 0, 250);
        Checks.notTaken("a ring", () -> x.move(0, 3, 1));
        Checks.is("anew", x.parentAnew(0, 1), 3);
    }

    private static void orphans() {
        MasterTree x = start();
        x.add(0, 0, 0, 1);
        x.exchange(0, 1, 250);
        x.delete(0, 1);
        x.add(1, 1, 0, 5);
        x.add(1, 2, 0, 6);
        x.add(1, 1, 0, 4);
        x.exchange(1, 0, 250);
        Checks.is("an orphan", x.parentOf(0, 2), MasterTree.LOST);
        Checks.is("what is beneath it is none", x.parentOf(0, 3), 2);
        Checks.is("two orphans", x.conflicts(0, 1), 2);
        Checks.is("none where the deletion is not known", x.conflicts(1, 1), 0);
        Checks.is("at LOST by rising names", x.childAt(0, MasterTree.LOST, 0), 4);
        Checks.is("at LOST by rising names", x.childAt(0, MasterTree.LOST, 1), 2);
        Checks.is("no more at LOST", x.childAt(0, MasterTree.LOST, 2), MasterTree.NONE);
        Checks.notTaken("siblings at LOST", () -> x.rename(0, 2, 4));
        Checks.is("the root has nothing", x.childAt(0, 0, 0), MasterTree.NONE);
        Checks.is("live ones", x.live(0), 4);
        Checks.is("one mark", x.marks(0), 1);
        x.exchange(0, 1, 250);
        Checks.is("alike", x.areAlike(0, 1), true);
        Checks.is("an orphan can be deleted", x.delete(0, 4), 2);
        clashAtLost();
    }

    private static void clashAtLost() {
        MasterTree x = start();
        x.add(0, 0, 0, 1);
        x.add(0, 0, 0, 2);
        x.exchange(0, 1, 250);
        x.delete(0, 1);
        x.delete(0, 2);
        x.add(1, 1, 0, 7);
        x.add(1, 2, 0, 7);
        x.exchange(1, 0, 250);
        Checks.is("the first one at LOST", x.nameOf(0, 3), 7);
        Checks.is("the other one at LOST clashes", x.nameOf(0, 4), 104);
        Checks.is("one clashes", x.conflicts(0, 0), 1);
        Checks.is("none where they have parents", x.conflicts(1, 0), 0);
    }

    private static void incomplete() {
        MasterTree x = start();
        x.draft(0, 1);
        x.draft(0, 2);
        x.add(0, 0, 1, 1);
        x.add(0, 0, 0, 2);
        x.exchange(0, 1, 250);
        x.removeValue(0, 1, 0, 1);
        x.removeValue(1, 1, 0, 2);
        Checks.is("complete still", x.conflicts(0, 2), 0);
        both(x, 0, 1);
        Checks.is("incomplete", x.conflicts(0, 2), 1);
        Checks.is("incomplete", x.conflicts(1, 2), 1);
        Checks.is("no clash", x.conflicts(1, 0), 0);
        Checks.is("no orphan", x.conflicts(1, 1), 0);
        x.addValue(1, 1, 0, 3);
        Checks.is("complete again", x.conflicts(1, 2), 0);
        x.delete(0, 1);
        Checks.is("deleted ones do not count", x.conflicts(0, 2), 0);
        Checks.noSuch("no sort 3", () -> x.conflicts(0, 3));
        Checks.noSuch("no sort -1", () -> x.conflicts(0, -1));
        Checks.noSuch("no master 4", () -> x.conflicts(4, 0));
    }

    private static void sweep() {
        MasterTree x = start();
        x.add(0, 0, 0, 1);
        x.add(0, 0, 0, 2);
        x.delete(0, 1);
        Checks.noSuch("no master", () -> x.sweep(4));
        Checks.is("nobody knows of it", x.sweep(0), 0);
        x.exchange(0, 1, 250);
        x.exchange(0, 2, 250);
        Checks.is("two know of it", x.sweep(0), 0);
        Checks.is("three marks", x.marks(0) + x.marks(1) + x.marks(2), 3);
        x.delete(0, 2);
        x.exchange(0, 3, 3);
        Checks.is("all know of the first one", x.sweep(0), 1);
        Checks.is("the second mark is kept", x.marks(0), 1);
        Checks.is("dropped once", x.sweep(0), 0);
        Checks.is("another one does not know that all know", x.sweep(1), 0);
        Checks.is("the last one does", x.sweep(3), 1);
        x.exchange(3, 1, 0);
        Checks.is("until it is told, without changes", x.sweep(1), 1);
        Checks.is("no marks at 1", x.marks(1), 0);
        x.exchange(0, 3, 250);
        Checks.is("a new mark", x.marks(3), 1);
    }

    /** All four know some deletion of the entry, though not the same one. */
    private static void sweepByUnlikeDeletes() {
        MasterTree x = start();
        x.add(0, 0, 0, 1);
        x.exchange(0, 1, 250);
        x.exchange(0, 2, 250);
        x.exchange(0, 3, 250);
        x.delete(0, 1);
        x.delete(1, 1);
        x.exchange(0, 2, 250);
        x.exchange(1, 3, 250);
        Checks.is("2 knows of two masters", x.sweep(2), 0);
        x.exchange(3, 2, 0);
        Checks.is("told of the others' deletion, it does not know that itself", x.sweep(2), 0);
        x.exchange(3, 2, 250);
        Checks.is("now it does", x.sweep(2), 1);
        Checks.is("0 knows nothing of this", x.sweep(0), 0);
    }

    private static void sweepByHearsay() {
        MasterTree x = start();
        x.add(0, 0, 0, 1);
        x.delete(0, 1);
        x.exchange(0, 1, 250);
        x.exchange(1, 2, 250);
        x.exchange(2, 3, 250);
        Checks.is("the last one knows of all", x.sweep(3), 1);
        Checks.is("the third one knows of all", x.sweep(2), 1);
        Checks.is("the second one does not", x.sweep(1), 0);
        Checks.is("the first one does not", x.sweep(0), 0);
        x.exchange(0, 3, 0);
        Checks.is("the giver is told, too", x.sweep(0), 1);
        x.exchange(0, 1, 0);
        Checks.is("and tells what it was told", x.sweep(1), 1);
    }

    private static void deletedTwice() {
        MasterTree x = start();
        x.add(0, 0, 0, 1);
        for (int to = 1; to < 4; to++) {
            x.exchange(0, to, 250);
        }
        x.delete(3, 1);
        x.delete(0, 1);
        x.exchange(0, 1, 250);
        x.exchange(0, 2, 250);
        x.exchange(0, 3, 250);
        Checks.is("one mark of two deletions", x.marks(3), 1);
        Checks.is("dropped", x.sweep(0), 1);
        Checks.is("the other deletion is got", x.exchange(3, 0, 250), 1);
        Checks.is("the mark does not come back", x.marks(0), 0);
        Checks.is("nothing to sweep", x.sweep(0), 0);
        Checks.is("alike", x.areAlike(0, 1), true);
        x.add(0, 0, 0, 1);
        Checks.is("marks are only of deleted ones", x.delete(0, 2), 1);
    }

    /** Each thing that a master shows makes a difference, and all differences go by an exchange. */
    private static void areAlike() {
        for (int change = 0; change < 9; change++) {
            MasterTree x = start();
            x.draft(0, 5);
            x.draft(1, 31);
            x.add(0, 0, 0, 1);
            x.add(0, 0, 0, 2);
            x.exchange(0, 1, 250);
            Checks.is("alike", x.areAlike(0, 1), true);
            change(x, change);
            Checks.is("not alike by change " + change, x.areAlike(0, 1), false);
            Checks.is("not alike by change " + change, x.areAlike(1, 0), false);
            Checks.is("as it is itself", x.areAlike(0, 0), true);
            x.exchange(0, 1, 250);
            Checks.is("alike again", x.areAlike(0, 1), true);
        }
    }

    private static void change(MasterTree x, int change) {
        switch (change) {
            case 0: x.addValue(0, 1, 0, 6); break;
            case 1: x.removeValue(0, 1, 0, 5); break;
            case 2: x.replace(0, 1, 1, 32); break;
            case 3: x.rename(0, 1, 3); break;
            case 4: x.move(0, 1, 2); break;
            case 5: x.delete(0, 1); break;
            case 6: x.link(0, 1, 2); break;
            case 7: x.rule(0, 0, 3, 2, 1, 1); break;
            default: x.add(0, 0, 0, 3);
        }
    }

    private static void alikeRules() {
        for (int scope = 0; scope < 3; scope++) {
            for (int right = 0; right < 2; right++) {
                for (int says = 1; says < 3; says++) {
                    MasterTree x = start();
                    x.add(0, 0, 0, 1);
                    x.exchange(0, 1, 250);
                    x.rule(0, 1, 101, scope, right, says);
                    Checks.is("a rule more", x.areAlike(0, 1), false);
                    x.rule(1, 1, 101, scope, right, 3 - says);
                    Checks.is("another one", x.areAlike(0, 1), false);
                    x.rule(1, 1, 101, scope, right, says);
                    Checks.is("the same one", x.areAlike(0, 1), true);
                    x.rule(0, 1, 101, scope, right, 0);
                    x.rule(1, 1, 101, scope, right, 0);
                    Checks.is("none", x.areAlike(0, 1), true);
                }
            }
        }
    }

    /** What deleted entries have makes no difference, nor does what lets an entry be shown as it is. */
    private static void alikeByWhatIsShown() {
        MasterTree x = start();
        x.add(0, 0, 0, 1);
        x.exchange(0, 1, 250);
        x.addValue(0, 1, 0, 3);
        x.rule(0, 1, 2, 0, 0, 2);
        x.delete(0, 1);
        x.delete(1, 1);
        Checks.is("only the root is live", x.areAlike(0, 1), true);
        x.add(0, 0, 0, 7);
        x.exchange(0, 1, 250);
        x.add(0, 2, 0, 8);
        x.exchange(0, 1, 250);
        x.delete(0, 3);
        x.add(1, 3, 0, 9);
        x.exchange(1, 0, 250);
        Checks.is("at LOST, and not", x.areAlike(0, 1), false);
        x.exchange(0, 1, 250);
        Checks.is("both at LOST", x.areAlike(0, 1), true);
    }

    private static void wrongMasters() {
        MasterTree x = start();
        Checks.noSuch("areAlike of 4", () -> x.areAlike(4, 0));
        Checks.noSuch("areAlike with -1", () -> x.areAlike(0, -1));
        Checks.noSuch("knows of 4", () -> x.knows(0, 4));
        Checks.noSuch("knows of -1", () -> x.knows(0, -1));
        Checks.noSuch("4 knows", () -> x.knows(4, 0));
        Checks.noSuch("marks of 4", () -> x.marks(4));
        Checks.noSuch("marks of -1", () -> x.marks(-1));
        Checks.noSuch("sweep of -1", () -> x.sweep(-1));
        Checks.noSuch("live of 4", () -> x.live(4));
        Checks.noSuch("live of -1", () -> x.live(-1));
    }
}
