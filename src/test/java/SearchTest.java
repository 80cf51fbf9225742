/** Promises 18 to 28: the draft of filters, searches by indexes and walking, and following links. */
final class SearchTest {
    private SearchTest() {
    }

    /**
     * Attributes: 0 exact, 1 by tens, 2 allowed. Classes: 0, 1 beneath 0, 2 beneath 1, 3 beside.
     * The root has 1 (of 0) and 4 (of 3); 1 has 2 (of 1); 2 has 3 (of 2).
     */
    private static MasterTree start() {
        MasterTree x = new MasterTree();
        x.attribute(false, false);
        x.attribute(false, true);
        x.attribute(true, true);
        x.objectClass(-1, 0, 7);
        x.objectClass(0, 0, 0);
        x.objectClass(1, 0, 0);
        x.objectClass(-1, 0, 7);
        x.draft(0, 5);
        x.draft(1, 15);
        x.add(0, 0, 0, 9);
        x.draft(0, 7);
        x.draft(0, 6);
        x.draft(1, 27);
        x.add(0, 1, 1, 2);
        x.draft(1, 15);
        x.draft(1, 30);
        x.add(0, 2, 2, 3);
        x.add(0, 0, 3, 1);
        return x;
    }

    public static void main(String[] args) {
        equal();
        atLeast();
        has();
        ofClass();
        combineAndNot();
        draftLimits();
        wipe();
        scopes();
        wrongSearches();
        readingOnly();
        found();
        notLive();
        followLinks();
        followScopes();
        followReferrals();
        followRings();
        followOrder();
        followUsers();
        Checks.end("SearchTest");
    }

    /** Searches the whole tree of master 0 both ways, and holds what is found against what is due. */
    private static void finds(String what, MasterTree x, int... due) {
        findsAt(what, x, 0, 2, due);
    }

    private static void findsAt(String what, MasterTree x, int base, int scope, int... due) {
        Checks.is(what + ", by walking", x.searchByWalk(0, base, scope), due.length);
        Checks.is(what + ", by indexes", x.search(0, base, scope), due.length);
        holds(what, x, due);
    }

    private static void follows(String what, MasterTree x, int master, int base, int scope, int... due) {
        Checks.is(what + ", followed", x.follow(master, base, scope), due.length);
        holds(what, x, due);
    }

    private static void holds(String what, MasterTree x, int... due) {
        for (int index = 0; index < due.length; index++) {
            int at = index;
            try {
                Checks.is(what + ", found " + at, x.found(at), due[at]);
            } catch (IndexOutOfBoundsException none) {
                Checks.is(what + ", found " + at + " is there", false, true);
            }
        }
        Checks.noSuch(what + ", no more", () -> x.found(due.length));
    }

    private static void equal() {
        MasterTree x = start();
        Checks.noSuch("no attribute", () -> x.equal(3, 1000));
        Checks.noSuch("no attribute", () -> x.equal(-1, 0));
        Checks.outOfRange("value 1000", () -> x.equal(0, 1000));
        Checks.outOfRange("value -1", () -> x.equal(0, -1));
        Checks.is("the first filter", x.equal(0, 6), 1);
        finds("exact", x, 2);
        x.wipe();
        x.equal(0, 8);
        finds("no such value", x);
        x.wipe();
        x.equal(1, 19);
        finds("by tens", x, 1, 3);
        x.wipe();
        x.equal(1, 10);
        finds("by tens", x, 1, 3);
        x.wipe();
        x.equal(1, 20);
        finds("by tens", x, 2);
        x.replace(0, 2, 1, 999);
        finds("it has gone", x);
        x.wipe();
        x.equal(1, 990);
        finds("it has come", x, 2);
        x.equal(1, 0);
        Checks.is("the third filter", x.equal(0, 0), 3);
    }

    private static void atLeast() {
        MasterTree x = start();
        Checks.noSuch("no attribute", () -> x.atLeast(3, 1000));
        Checks.noSuch("no attribute", () -> x.atLeast(-1, 0));
        Checks.outOfRange("value 1000", () -> x.atLeast(0, 1000));
        Checks.outOfRange("value -1", () -> x.atLeast(0, -1));
        Checks.is("the first filter", x.atLeast(0, 6), 1);
        finds("exact", x, 2);
        x.wipe();
        x.atLeast(0, 8);
        finds("none is so great", x);
        x.wipe();
        x.atLeast(0, 0);
        finds("all", x, 1, 2);
        x.wipe();
        x.atLeast(1, 29);
        finds("by the keys", x, 2, 3);
        x.wipe();
        x.atLeast(1, 39);
        finds("by the keys", x, 3);
        x.wipe();
        x.atLeast(1, 40);
        finds("by the keys", x);
        x.replace(0, 4, 0, 999);
        x.wipe();
        x.atLeast(0, 999);
        finds("the greatest value", x, 4);
    }

    private static void has() {
        MasterTree x = start();
        Checks.noSuch("no attribute 3", () -> x.has(3));
        Checks.noSuch("no attribute -1", () -> x.has(-1));
        Checks.is("the first filter", x.has(0), 1);
        finds("has 0", x, 1, 2);
        x.wipe();
        x.has(2);
        finds("has 2", x);
        x.addValue(0, 4, 2, 0);
        finds("the least value", x, 4);
        x.replace(0, 4, 2, 999);
        finds("the greatest value", x, 4);
        x.removeValue(0, 4, 2, 990);
        finds("none again", x);
    }

    private static void ofClass() {
        MasterTree x = start();
        Checks.noSuch("no class 4", () -> x.ofClass(4));
        Checks.noSuch("no class -1", () -> x.ofClass(-1));
        Checks.is("the first filter", x.ofClass(0), 1);
        finds("of 0, or beneath", x, 1, 2, 3);
        x.wipe();
        x.ofClass(1);
        finds("of 1, or beneath", x, 2, 3);
        x.wipe();
        x.ofClass(2);
        finds("of 2", x, 3);
        x.wipe();
        x.ofClass(3);
        finds("of 3", x, 4);
        x.not();
        finds("the root is of none", x, 0, 1, 2, 3);
    }

    private static void combineAndNot() {
        MasterTree x = start();
        Checks.notTaken("no filters", () -> x.combine(true));
        Checks.notTaken("no filter", () -> x.not());
        x.has(0);
        Checks.notTaken("one filter", () -> x.combine(false));
        Checks.is("not", x.not(), 1);
        finds("not", x, 0, 3, 4);
        x.equal(1, 30);
        Checks.is("both", x.combine(true), 1);
        finds("both", x, 3);
        x.ofClass(3);
        Checks.is("either", x.combine(false), 1);
        finds("either", x, 3, 4);
        Checks.is("parts", x.wipe(), 6);
        x.equal(0, 5);
        x.equal(0, 6);
        x.equal(1, 30);
        Checks.is("the last two", x.combine(false), 2);
        Checks.notTaken("two filters", () -> x.search(0, 0, 2));
        x.combine(false);
        finds("one of three", x, 1, 2, 3);
        x.wipe();
        x.equal(0, 5);
        x.has(1);
        x.not();
        x.combine(false);
        finds("not goes for the last one alone", x, 0, 1, 4);
        x.not();
        finds("not of either", x, 2, 3);
        x.wipe();
        x.ofClass(0);
        x.has(0);
        x.ofClass(2);
        x.not();
        x.combine(true);
        x.combine(true);
        finds("both of both", x, 1, 2);
        x.not();
        x.not();
        finds("twice not", x, 1, 2);
    }

    private static void draftLimits() {
        MasterTree x = start();
        for (int count = 1; count <= 8; count++) {
            Checks.is("filters", x.has(0), count);
        }
        Checks.notTaken("the ninth", () -> x.has(0));
        Checks.notTaken("the ninth", () -> x.equal(0, 0));
        Checks.notTaken("the ninth", () -> x.atLeast(0, 0));
        Checks.notTaken("the ninth", () -> x.ofClass(0));
        Checks.outOfRange("the ninth, out of range", () -> x.equal(0, 1000));
        Checks.noSuch("the ninth, of no attribute", () -> x.has(9));
        Checks.notTaken("eight filters", () -> x.search(0, 0, 2));
        for (int count = 7; count >= 1; count--) {
            Checks.is("combined", x.combine(count % 2 == 0), count);
        }
        finds("of 15 parts", x, 1, 2);
        Checks.notTaken("a sixteenth part", () -> x.not());
        Checks.notTaken("a sixteenth part", () -> x.has(0));
        Checks.notTaken("a sixteenth part", () -> x.equal(0, 5));
        Checks.notTaken("a sixteenth part", () -> x.atLeast(0, 5));
        Checks.notTaken("a sixteenth part", () -> x.ofClass(1));
        finds("wrong calls change nothing", x, 1, 2);
        Checks.is("15 parts", x.wipe(), 15);
        x.has(0);
        for (int count = 0; count < 13; count++) {
            Checks.is("not", x.not(), 1);
        }
        x.has(1);
        Checks.notTaken("a sixteenth part", () -> x.combine(true));
        Checks.notTaken("two filters", () -> x.searchByWalk(0, 0, 2));
    }

    private static void wipe() {
        MasterTree x = start();
        Checks.is("nothing", x.wipe(), 0);
        x.has(0);
        x.has(1);
        x.combine(true);
        x.not();
        Checks.is("four parts", x.wipe(), 4);
        Checks.is("nothing is left", x.wipe(), 0);
        Checks.notTaken("nothing is left", () -> x.not());
        Checks.is("a new one", x.has(0), 1);
    }

    private static void scopes() {
        MasterTree x = start();
        x.has(0);
        x.not();
        x.has(0);
        x.combine(false);
        findsAt("itself", x, 1, 0, 1);
        findsAt("the root itself", x, 0, 0, 0);
        findsAt("children", x, 1, 1, 2);
        findsAt("children of the root", x, 0, 1, 1, 4);
        findsAt("no children", x, 3, 1);
        findsAt("beneath", x, 1, 2, 1, 2, 3);
        findsAt("beneath the last one", x, 3, 2, 3);
        x.move(0, 1, 4);
        findsAt("beneath, by rising numbers", x, 4, 2, 1, 2, 3, 4);
        x.move(0, 3, 4);
        findsAt("children, by rising numbers", x, 4, 1, 1, 3);
        Checks.is("another master", x.search(2, 0, 2), 1);
        Checks.is("its root", x.found(0), 200);
    }

    private static void wrongSearches() {
        MasterTree x = start();
        x.has(0);
        x.search(0, 0, 2);
        Checks.noSuch("search, no master", () -> x.search(4, 0, 0));
        Checks.noSuch("search, no entry there", () -> x.search(1, 1, 0));
        Checks.noSuch("search, LOST", () -> x.search(0, MasterTree.LOST, 0));
        Checks.noSuch("search, no scope 3", () -> x.search(0, 0, 3));
        Checks.noSuch("search, no scope -1", () -> x.search(0, 0, -1));
        Checks.noSuch("walk, no master", () -> x.searchByWalk(-1, 0, 0));
        Checks.noSuch("walk, no entry there", () -> x.searchByWalk(0, 5, 0));
        Checks.noSuch("walk, no scope 3", () -> x.searchByWalk(0, 0, 3));
        Checks.noSuch("follow, no master", () -> x.follow(4, 0, 0));
        Checks.noSuch("follow, no entry there", () -> x.follow(1, 2, 0));
        Checks.noSuch("follow, no scope 3", () -> x.follow(0, 0, 3));
        Checks.noSuch("follow, no scope -1", () -> x.follow(0, 0, -1));
        x.has(0);
        Checks.notTaken("search, two filters", () -> x.search(0, 0, 0));
        Checks.notTaken("walk, two filters", () -> x.searchByWalk(0, 0, 0));
        Checks.notTaken("follow, two filters", () -> x.follow(0, 0, 0));
        x.wipe();
        Checks.notTaken("search, no filter", () -> x.search(0, 0, 0));
        Checks.notTaken("walk, no filter", () -> x.searchByWalk(0, 0, 0));
        Checks.notTaken("follow, no filter", () -> x.follow(0, 0, 0));
        Checks.noSuch("no filter, and no scope", () -> x.search(0, 0, 3));
        holds("wrong searches keep what was found", x, 1, 2);
    }

    private static void readingOnly() {
        MasterTree x = start();
        x.has(1);
        x.rule(0, 2, 3, 2, 0, MasterTree.DENY);
        x.rule(0, 3, 3, 0, 0, MasterTree.ALLOW);
        finds("the user 0 reads all", x, 1, 2, 3);
        x.serve(0, 3);
        finds("the user 3 does not", x, 1, 3);
        follows("nor does it when following", x, 0, 0, 2, 1, 3);
        x.serve(0, 4);
        finds("the user 4 does", x, 1, 2, 3);
    }

    private static void found() {
        MasterTree x = start();
        x.has(0);
        Checks.noSuch("nothing was searched", () -> x.found(0));
        x.search(0, 0, 2);
        Checks.noSuch("index -1", () -> x.found(-1));
        Checks.is("a walk", x.searchByWalk(0, 1, 0), 1);
        holds("a walk keeps what was found", x, 1, 2);
        x.exchange(0, 3, 250);
        x.search(3, 2, 2);
        holds("of another master", x, 302);
        x.wipe();
        holds("wiping keeps it", x, 302);
        x.delete(3, 3);
        holds("operations keep it", x, 302);
        x.has(2);
        x.search(0, 0, 2);
        holds("a search that finds nothing", x);
    }

    private static void notLive() {
        MasterTree x = start();
        x.exchange(0, 1, 250);
        x.delete(0, 4);
        x.add(1, 4, 0, 5);
        x.exchange(1, 0, 250);
        x.has(0);
        x.has(0);
        x.not();
        x.combine(false);
        finds("orphans are not beneath the root", x, 0, 1, 2, 3);
        findsAt("an orphan as the base", x, 5, 2, 5);
        Checks.noSuch("a deleted one as the base", () -> x.search(0, 4, 2));
        x.wipe();
        x.ofClass(3);
        finds("deleted ones are not found", x);
        Checks.is("they are where they live", x.search(1, 0, 2), 1);
    }

    private static void followLinks() {
        MasterTree x = start();
        x.has(1);
        follows("no links, by rising names", x, 0, 0, 2, 1, 2, 3);
        x.link(0, 4, 3);
        follows("4 is named 1, so its alias goes first", x, 0, 0, 2, 3, 1, 2);
        follows("an alias as the base", x, 0, 4, 0, 3);
        x.link(0, 3, 2);
        follows("an alias to an alias", x, 0, 4, 0, 2);
        follows("3 is met already", x, 0, 0, 2, 2, 1);
        follows("what is beneath the target", x, 0, 4, 2, 2);
        x.link(0, 3, MasterTree.NONE);
        x.link(0, 4, 2);
        follows("what is beneath the target", x, 0, 4, 2, 2, 3);
        x.link(0, 4, 1);
        x.exchange(0, 1, 250);
        x.delete(1, 3);
        x.link(1, 2, 4);
        follows("aliases in a ring through the tree", x, 1, 2, 2, 101);
        x.exchange(1, 0, 250);
        x.link(0, 2, 0);
        follows("an alias to the root", x, 0, 2, 2, 1);
        x.wipe();
        x.has(1);
        x.not();
        follows("the root is looked at", x, 0, 2, 2, 0);
    }

    private static void followScopes() {
        MasterTree x = start();
        x.ofClass(0);
        follows("itself", x, 0, 1, 0, 1);
        follows("children alone", x, 0, 1, 1, 2);
        follows("children of the root", x, 0, 0, 1, 1);
        follows("all", x, 0, 1, 2, 1, 2, 3);
        x.link(0, 4, 2);
        follows("children of the alias's target", x, 0, 4, 1, 3);
        follows("a child that is an alias, without what is beneath its target", x, 0, 0, 1, 2, 1);
        x.link(0, 3, 4);
        follows("a child that is a ring of aliases", x, 0, 2, 1);
        x.link(0, 3, 1);
        follows("a child that is an alias", x, 0, 2, 1, 1);
        x.wipe();
        x.ofClass(3);
        x.not();
        follows("the base is looked at with the scope 0", x, 0, 0, 0, 0);
        follows("and not with the scope 1", x, 0, 0, 1, 2, 1);
    }

    private static void followReferrals() {
        MasterTree x = start();
        x.exchange(0, 1, 250);
        x.exchange(0, 2, 250);
        x.has(1);
        x.link(0, 1, 101);
        follows("at the other master", x, 0, 1, 0, 101);
        follows("and all beneath it there", x, 0, 0, 2, 101, 102, 103);
        x.link(1, 2, 102);
        follows("on to the third one", x, 0, 0, 2, 101, 202, 203);
        follows("children at the other master", x, 0, 1, 1, 202);
        x.delete(2, 3);
        follows("what is deleted there is not found", x, 0, 0, 2, 101, 202);
        x.link(0, 3, 102);
        x.link(0, 1, MasterTree.NONE);
        follows("a referral to where it is deleted", x, 0, 0, 2, 1, 2);
        x.link(0, 3, 103);
        follows("a referral to where it never was", x, 0, 3, 0);
        x.link(0, 3, 100);
        follows("a referral to its own master", x, 0, 3, 2);
        x.link(0, 3, 101);
        follows("a referral from beneath", x, 0, 0, 2, 1, 2, 103);
    }

    private static void followRings() {
        MasterTree x = start();
        x.exchange(0, 1, 250);
        x.has(1);
        x.link(0, 2, 101);
        x.link(1, 2, 100);
        follows("two referrals in a ring", x, 0, 2, 2);
        follows("from the other one", x, 1, 2, 0);
        x.link(1, 2, 1);
        x.link(1, 1, 100);
        follows("back at the first master", x, 0, 2, 2, 1);
        x.link(0, 2, 1);
        x.link(0, 1, 2);
        follows("two aliases in a ring", x, 0, 1, 2);
        follows("from above", x, 0, 0, 2);
        x.link(0, 1, MasterTree.NONE);
        follows("an alias to what is above", x, 0, 2, 2, 1);
    }

    private static void followOrder() {
        MasterTree x = new MasterTree();
        x.attribute(false, false);
        x.objectClass(-1, 0, 1);
        x.add(0, 0, 0, 50);
        x.add(0, 0, 0, 10);
        x.add(0, 1, 0, 9);
        x.add(0, 1, 0, 3);
        x.add(0, 2, 0, 99);
        x.add(0, 4, 0, 0);
        x.ofClass(0);
        follows("each one with all beneath it, by rising names", x, 0, 0, 2, 2, 5, 1, 4, 6, 3);
        x.link(0, 2, 4);
        follows("what an alias leads to goes ahead", x, 0, 0, 2, 4, 6, 1, 3);
        x.link(0, 2, MasterTree.NONE);
        x.add(1, 0, 0, 10);
        x.exchange(0, 1, 250);
        x.exchange(1, 0, 250);
        Checks.is("the entry 2 clashes", x.nameOf(0, 2), 102);
        follows("by shown names", x, 0, 0, 1, 7, 1, 2);
    }

    private static void followUsers() {
        MasterTree x = start();
        x.exchange(0, 1, 250);
        x.has(1);
        x.link(0, 1, 101);
        x.rule(1, 2, 3, 0, 0, MasterTree.DENY);
        x.rule(0, 3, 3, 0, 0, MasterTree.DENY);
        follows("the user 0", x, 0, 0, 2, 101, 102, 103);
        x.serve(1, 3);
        follows("whom the other master serves does not count", x, 0, 0, 2, 101, 102, 103);
        x.serve(0, 3);
        x.serve(1, 0);
        follows("the user goes along, the other one's rules count", x, 0, 0, 2, 101, 103);
    }
}
