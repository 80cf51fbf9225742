/** Promises 29 to 37: what is asked of entries, above all of their values and the rights on them. */
final class EntriesTest {
    private EntriesTest() {
    }

    /** Attributes: 0 exact, 1 by tens. Entries: 1 at the root, 2 at 1, 3 at 2, 4 at the root; 4 is for groups. */
    private static MasterTree start(boolean isByTens) {
        MasterTree x = new MasterTree();
        x.attribute(false, isByTens);
        x.attribute(false, true);
        x.objectClass(-1, 0, 3);
        x.add(0, 0, 0, 1);
        x.add(0, 1, 0, 2);
        x.add(0, 2, 0, 3);
        x.add(0, 0, 0, 4);
        return x;
    }

    public static void main(String[] args) {
        live();
        places();
        values();
        links();
        rightsAtFirst();
        scopesOfRules();
        nearestFirst();
        sortsOfSubjects();
        groups();
        groupsByTens();
        deletedGroups();
        orphans();
        wrongRights();
        children();
        wrongEntries();
        Checks.end("EntriesTest");
    }

    private static void live() {
        MasterTree x = start(false);
        Checks.is("with the root", x.live(0), 5);
        Checks.is("the root alone", x.live(3), 1);
        x.delete(0, 3);
        Checks.is("without the deleted one", x.live(0), 4);
        x.exchange(0, 3, 2);
        Checks.is("two that are got", x.live(3), 3);
        x.exchange(0, 3, 250);
        Checks.is("all, without the deleted one", x.live(3), 4);
    }

    private static void places() {
        MasterTree x = start(false);
        int[] parents = {MasterTree.NONE, 0, 1, 2, 0};
        for (int entry = 0; entry < 5; entry++) {
            Checks.is("parent of " + entry, x.parentOf(0, entry), parents[entry]);
            Checks.is("parent of " + entry + " anew", x.parentAnew(0, entry), parents[entry]);
            Checks.is("name of " + entry, x.nameOf(0, entry), entry);
        }
        x.move(0, 2, 4);
        Checks.is("where it was moved to", x.parentOf(0, 2), 4);
        Checks.is("anew", x.parentAnew(0, 2), 4);
        Checks.is("what is beneath it goes with it", x.parentOf(0, 3), 2);
    }

    private static void values() {
        MasterTree x = start(false);
        int[] values = {500, 3, 999, 0, 77};
        for (int value : values) {
            x.addValue(0, 1, 0, value);
            x.addValue(0, 2, 0, value + (value < 500 ? 1 : -1));
        }
        x.addValue(0, 1, 1, 42);
        int[] rising = {0, 3, 77, 500, 999, MasterTree.NONE};
        for (int index = 0; index < rising.length; index++) {
            Checks.is("by rising values", x.valueAt(0, 1, 0, index), rising[index]);
        }
        Checks.is("far behind", x.valueAt(0, 1, 0, Integer.MAX_VALUE), MasterTree.NONE);
        Checks.is("of another attribute", x.valueAt(0, 1, 1, 0), 42);
        Checks.is("of another entry", x.valueAt(0, 2, 0, 4), 998);
        Checks.is("no more of another attribute", x.valueAt(0, 1, 1, 1), MasterTree.NONE);
        Checks.is("the root has none", x.valueAt(0, 0, 0, 0), MasterTree.NONE);
        Checks.is("how many", x.valuesAnew(0, 1, 0), 5);
        Checks.is("how many of another one", x.valuesAnew(0, 1, 1), 1);
        Checks.is("how many of the root", x.valuesAnew(0, 0, 1), 0);
        Checks.noSuch("index -1", () -> x.valueAt(0, 1, 0, -1));
        Checks.noSuch("no attribute 2", () -> x.valueAt(0, 1, 2, 0));
        Checks.noSuch("no attribute -1", () -> x.valueAt(0, 1, -1, 0));
        Checks.noSuch("no attribute 2", () -> x.valuesAnew(0, 1, 2));
        Checks.noSuch("no attribute -1", () -> x.valuesAnew(0, 1, -1));
    }

    private static void links() {
        MasterTree x = start(false);
        x.link(0, 1, 4);
        x.exchange(0, 1, 250);
        Checks.is("the alias is got", x.linkOf(1, 1), 4);
        x.link(1, 1, 103);
        Checks.is("a referral", x.linkOf(1, 1), 103);
        Checks.is("the alias still", x.linkOf(0, 1), 4);
        Checks.is("no link", x.linkOf(0, 2), MasterTree.NONE);
        Checks.is("none of the root", x.linkOf(0, 0), MasterTree.NONE);
    }

    private static void rightsAtFirst() {
        MasterTree x = start(false);
        for (int user = 0; user < 6; user++) {
            for (int entry = 0; entry < 5; entry++) {
                Checks.is("all may read", x.may(0, user, entry, 0), true);
                Checks.is("the user 0 may write", x.may(0, user, entry, 1), user == 0);
            }
        }
        x.rule(0, 0, 0, 2, 0, MasterTree.DENY);
        x.rule(0, 0, MasterTree.ALL, 2, 1, MasterTree.DENY);
        Checks.is("no rule takes rights from the user 0", x.may(0, 0, 0, 0) && x.may(0, 0, 1, 1), true);
        Checks.is("the rule for the user 0 is for that one", x.may(0, 1, 0, 0), true);
        Checks.is("rules are of a master", x.may(1, 1, 0, 1), false);
    }

    private static void scopesOfRules() {
        boolean[][] reached = {{true, false, false, false}, {false, true, false, false}, {true, true, true, true}};
        for (int scope = 0; scope < 3; scope++) {
            for (int right = 0; right < 2; right++) {
                MasterTree x = start(false);
                x.rule(0, 0, 2, scope, right, right == 0 ? MasterTree.DENY : MasterTree.ALLOW);
                for (int entry = 0; entry < 4; entry++) {
                    boolean isReached = reached[scope][entry];
                    Checks.is("the right of the rule", x.may(0, 2, entry, right), isReached == (right == 1));
                    Checks.is("the other right", x.may(0, 2, entry, 1 - right), right == 1);
                    Checks.is("another user", x.may(0, 3, entry, right), right == 0);
                }
            }
        }
    }

    private static void nearestFirst() {
        MasterTree x = start(false);
        x.rule(0, 0, 2, 2, 0, MasterTree.DENY);
        x.rule(0, 1, MasterTree.ALL, 2, 0, MasterTree.ALLOW);
        Checks.is("the root", x.may(0, 2, 0, 0), false);
        Checks.is("the nearest goes first, even for everybody", x.may(0, 2, 1, 0), true);
        Checks.is("far beneath it, too", x.may(0, 2, 3, 0), true);
        Checks.is("beside it", x.may(0, 2, 4, 0), false);
        x.rule(0, 2, 2, 1, 0, MasterTree.DENY);
        Checks.is("for children only", x.may(0, 2, 2, 0), true);
        Checks.is("for children", x.may(0, 2, 3, 0), false);
        x.move(0, 3, 1);
        Checks.is("where it is shown then", x.may(0, 2, 3, 0), true);
        x.move(0, 3, 2);
        x.rule(0, 2, 2, 1, 0, MasterTree.NOTHING);
        Checks.is("what says nothing does not decide", x.may(0, 2, 3, 0), true);
        x.rule(0, 3, 2, 1, 0, MasterTree.DENY);
        Checks.is("its children's rules are not its own", x.may(0, 2, 3, 0), true);
        x.rule(0, 3, 2, 0, 0, MasterTree.DENY);
        x.rule(0, 3, 2, 2, 0, MasterTree.ALLOW);
        Checks.is("one that denies is enough", x.may(0, 2, 3, 0), false);
        x.rule(0, 3, 2, 0, 0, MasterTree.ALLOW);
        x.rule(0, 3, 2, 2, 0, MasterTree.DENY);
        Checks.is("whichever it is", x.may(0, 2, 3, 0), false);
    }

    private static void sortsOfSubjects() {
        MasterTree x = start(false);
        x.addValue(0, 4, 0, 2);
        x.rule(0, 1, 104, 0, 0, MasterTree.DENY);
        Checks.is("a group denies", x.may(0, 2, 1, 0), false);
        x.rule(0, 1, MasterTree.ALL, 0, 0, MasterTree.ALLOW);
        Checks.is("groups go ahead of everybody", x.may(0, 2, 1, 0), false);
        x.rule(0, 1, 2, 2, 0, MasterTree.ALLOW);
        Checks.is("the user goes ahead of groups", x.may(0, 2, 1, 0), true);
        x.rule(0, 1, MasterTree.ALL, 0, 0, MasterTree.DENY);
        Checks.is("and ahead of everybody", x.may(0, 2, 1, 0), true);
        Checks.is("others are denied", x.may(0, 3, 1, 0), false);
        x.rule(0, 1, 2, 2, 0, MasterTree.NOTHING);
        x.rule(0, 1, 104, 0, 0, MasterTree.ALLOW);
        Checks.is("groups that allow go ahead of everybody", x.may(0, 2, 1, 0), true);
        x.addValue(0, 3, 0, 2);
        x.rule(0, 1, 103, 2, 0, MasterTree.DENY);
        Checks.is("one group that denies is enough", x.may(0, 2, 1, 0), false);
    }

    private static void groups() {
        MasterTree x = start(false);
        x.rule(0, 0, 104, 2, 1, MasterTree.ALLOW);
        Checks.is("no member", x.may(0, 5, 1, 1), false);
        x.addValue(0, 4, 0, 5);
        Checks.is("a member", x.may(0, 5, 1, 1), true);
        Checks.is("another one", x.may(0, 4, 1, 1), false);
        x.addValue(0, 4, 0, 4);
        Checks.is("two members", x.may(0, 4, 1, 1) && x.may(0, 5, 0, 1), true);
        x.addValue(0, 4, 1, 3);
        Checks.is("the attribute 1 makes no members", x.may(0, 3, 1, 1), false);
        x.replace(0, 4, 0, 1);
        Checks.is("no members any more", x.may(0, 4, 1, 1) || x.may(0, 5, 0, 1), false);
        Checks.is("the new one", x.may(0, 1, 1, 1), true);
        x.addValue(0, 1, 0, 3);
        Checks.is("a member of another group", x.may(0, 3, 1, 1), false);
        x.rule(0, 0, 100, 2, 0, MasterTree.DENY);
        Checks.is("the root has no members", x.may(0, 1, 0, 0), true);
    }

    private static void groupsByTens() {
        MasterTree x = start(true);
        x.rule(0, 1, 104, 2, 0, MasterTree.DENY);
        x.addValue(0, 4, 0, 10);
        Checks.is("another ten", x.may(0, 1, 1, 0), true);
        x.addValue(0, 4, 0, 9);
        for (int user = 1; user < 6; user++) {
            Checks.is("all users are of the first ten", x.may(0, user, 2, 0), false);
        }
    }

    private static void deletedGroups() {
        MasterTree x = start(false);
        x.addValue(0, 4, 0, 2);
        x.rule(0, 1, 104, 2, 1, MasterTree.ALLOW);
        Checks.is("a live group", x.may(0, 2, 3, 1), true);
        x.exchange(0, 1, 250);
        x.delete(0, 4);
        Checks.is("a deleted group", x.may(0, 2, 3, 1), false);
        Checks.is("it is live at the other master", x.may(1, 2, 3, 1), true);
        x.rule(1, 2, 104, 0, 0, MasterTree.DENY);
        x.exchange(1, 0, 250);
        Checks.is("a rule for a deleted group is got, and does not apply", x.may(0, 2, 2, 0), true);
        Checks.noSuch("no new one", () -> x.rule(0, 2, 104, 0, 0, 1));
        x.exchange(0, 1, 250);
        Checks.is("alike", x.areAlike(0, 1), true);
    }

    /** From an orphan one does not go on upwards. */
    private static void orphans() {
        MasterTree x = start(false);
        x.rule(0, 0, 2, 2, 1, MasterTree.ALLOW);
        x.rule(0, 4, 2, 2, 0, MasterTree.DENY);
        x.exchange(0, 1, 250);
        x.delete(0, 4);
        x.add(1, 4, 0, 5);
        x.add(1, 5, 0, 6);
        Checks.is("beneath the root", x.may(1, 2, 6, 1), true);
        Checks.is("beneath a rule that denies", x.may(1, 2, 6, 0), false);
        x.exchange(1, 0, 250);
        Checks.is("an orphan", x.may(0, 2, 5, 1), false);
        Checks.is("beneath an orphan", x.may(0, 2, 6, 1), false);
        Checks.is("the deleted one's rules do not count", x.may(0, 2, 5, 0), true);
        x.rule(0, 5, 2, 2, 1, MasterTree.ALLOW);
        Checks.is("the orphan's own rules count", x.may(0, 2, 6, 1), true);
        x.rule(0, 5, 2, 2, 1, MasterTree.NOTHING);
        x.rule(0, 5, 2, 1, 1, MasterTree.ALLOW);
        Checks.is("for its children", x.may(0, 2, 6, 1), true);
        Checks.is("not for itself", x.may(0, 2, 5, 1), false);
    }

    private static void wrongRights() {
        MasterTree x = start(false);
        Checks.noSuch("no master 4", () -> x.may(4, 0, 0, 0));
        Checks.noSuch("no user 6", () -> x.may(0, 6, 0, 0));
        Checks.noSuch("no user -1", () -> x.may(0, -1, 0, 0));
        Checks.noSuch("no entry there", () -> x.may(1, 0, 1, 0));
        Checks.noSuch("no right 2", () -> x.may(0, 0, 0, 2));
        Checks.noSuch("no right -1", () -> x.may(0, 0, 0, -1));
    }

    private static void children() {
        MasterTree x = start(false);
        x.add(0, 0, 0, 2);
        x.add(0, 0, 0, 0);
        int[] rising = {6, 1, 5, 4, MasterTree.NONE};
        for (int index = 0; index < rising.length; index++) {
            Checks.is("by rising names", x.childAt(0, 0, index), rising[index]);
        }
        Checks.is("one at 1", x.childAt(0, 1, 0), 2);
        Checks.is("no more", x.childAt(0, 1, 1), MasterTree.NONE);
        Checks.is("far behind", x.childAt(0, 1, Integer.MAX_VALUE), MasterTree.NONE);
        Checks.is("none at LOST", x.childAt(0, MasterTree.LOST, 0), MasterTree.NONE);
        Checks.noSuch("no master", () -> x.childAt(4, 0, 0));
        Checks.noSuch("no entry there", () -> x.childAt(1, 1, 0));
        Checks.noSuch("NONE is no place", () -> x.childAt(0, MasterTree.NONE, 0));
        Checks.noSuch("no place -3", () -> x.childAt(0, -3, 0));
        Checks.noSuch("index -1", () -> x.childAt(0, 0, -1));
        Checks.noSuch("index -1 at LOST", () -> x.childAt(0, MasterTree.LOST, -1));
        x.delete(0, 5);
        Checks.is("without the deleted one", x.childAt(0, 0, 2), 4);
    }

    private static void wrongEntries() {
        MasterTree x = start(false);
        x.delete(0, 4);
        int[][] wrong = {{4, 0}, {-1, 0}, {0, 5}, {0, -1}, {0, 48}, {0, 47}, {1, 1}, {0, 4}, {0, -2}, {0, 64}};
        for (int[] at : wrong) {
            Checks.noSuch("parentOf", () -> x.parentOf(at[0], at[1]));
            Checks.noSuch("parentAnew", () -> x.parentAnew(at[0], at[1]));
            Checks.noSuch("nameOf", () -> x.nameOf(at[0], at[1]));
            Checks.noSuch("valueAt", () -> x.valueAt(at[0], at[1], 0, 0));
            Checks.noSuch("valuesAnew", () -> x.valuesAnew(at[0], at[1], 0));
            Checks.noSuch("linkOf", () -> x.linkOf(at[0], at[1]));
            Checks.noSuch("may", () -> x.may(at[0], 1, at[1], 0));
        }
    }
}
