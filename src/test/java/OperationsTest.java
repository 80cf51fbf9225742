/** Promises 7 to 15: the operations, each as it is taken, and as it is not. */
final class OperationsTest {
    private OperationsTest() {
    }

    /** Attributes: 0 exact, 1 by tens, 2 single, 3 single by tens, 4 allowed by no class. Class 1 requires 0. */
    private static MasterTree start() {
        MasterTree x = new MasterTree();
        x.attribute(false, false);
        x.attribute(false, true);
        x.attribute(true, false);
        x.attribute(true, true);
        x.attribute(false, false);
        x.objectClass(-1, 0, 15);
        x.objectClass(0, 1, 0);
        return x;
    }

    public static void main(String[] args) {
        add();
        addDrafted();
        addLimits();
        addValue();
        removeValue();
        replace();
        rename();
        move();
        delete();
        link();
        rule();
        rights();
        changesLimit();
        Checks.end("OperationsTest");
    }

    private static void add() {
        MasterTree x = start();
        Checks.noSuch("no master 4", () -> x.add(4, 0, 0, 0));
        Checks.noSuch("no master -1", () -> x.add(-1, 0, 0, 0));
        Checks.noSuch("no entry 1", () -> x.add(0, 1, 0, 0));
        Checks.noSuch("LOST is no entry", () -> x.add(0, MasterTree.LOST, 0, 0));
        Checks.noSuch("no class 2", () -> x.add(0, 0, 2, 0));
        Checks.noSuch("no class -1", () -> x.add(0, 0, -1, 100));
        Checks.outOfRange("name 100", () -> x.add(0, 0, 0, 100));
        Checks.outOfRange("name -1", () -> x.add(0, 0, 1, -1));
        Checks.is("the first entry", x.add(0, 0, 0, 99), 1);
        Checks.notTaken("the name is shown", () -> x.add(0, 0, 0, 99));
        Checks.is("the same name at another parent", x.add(0, 1, 0, 99), 2);
        Checks.noSuch("no entry 1 at another master", () -> x.add(1, 1, 0, 5));
        Checks.is("numbers go over all masters", x.add(1, 0, 0, 0), 3);
        Checks.is("its name", x.nameOf(1, 3), 0);
        Checks.is("its parent", x.parentOf(1, 3), 0);
        Checks.is("its link", x.linkOf(1, 3), MasterTree.NONE);
        Checks.is("its values", x.valuesAnew(1, 3, 0), 0);
        Checks.is("what one master knows", x.knows(0, 0), 2);
        Checks.is("what one master knows of another", x.knows(0, 1), 0);
    }

    private static void addDrafted() {
        MasterTree x = start();
        Checks.notTaken("a required attribute is missing", () -> x.add(0, 0, 1, 1));
        x.draft(4, 1);
        Checks.notTaken("an attribute that is not allowed", () -> x.add(0, 0, 0, 1));
        x.undraft();
        x.draft(2, 1);
        x.draft(0, 1);
        x.draft(2, 2);
        Checks.notTaken("two of a single one", () -> x.add(0, 0, 0, 1));
        x.undraft();
        x.draft(1, 20);
        x.draft(0, 20);
        x.draft(1, 29);
        Checks.notTaken("two that match by tens", () -> x.add(0, 0, 0, 1));
        x.undraft();
        x.draft(0, 20);
        x.draft(1, 20);
        x.draft(0, 20);
        Checks.notTaken("two that are alike", () -> x.add(0, 0, 0, 1));
        x.undraft();
        x.draft(1, 20);
        x.draft(1, 19);
        x.draft(1, 30);
        x.draft(0, 20);
        x.draft(0, 21);
        x.draft(3, 5);
        Checks.is("none of these match", x.add(0, 0, 1, 1), 1);
        Checks.is("least by tens", x.valueAt(0, 1, 1, 0), 19);
        Checks.is("middle by tens", x.valueAt(0, 1, 1, 1), 20);
        Checks.is("greatest by tens", x.valueAt(0, 1, 1, 2), 30);
        Checks.is("exact ones", x.valueAt(0, 1, 0, 1), 21);
        Checks.is("the single one", x.valueAt(0, 1, 3, 0), 5);
        Checks.is("nothing is drafted then", x.undraft(), 0);
        Checks.is("the refused ones left no changes", x.knows(0, 0), 1);
    }

    private static void addLimits() {
        MasterTree x = start();
        for (int entry = 1; entry < 48; entry++) {
            Checks.is("entry", x.add(entry % 4, 0, 0, entry), entry);
        }
        Checks.notTaken("there are 48 entries", () -> x.add(0, 0, 0, 99));
        Checks.notTaken("there are 48 entries over all masters", () -> x.add(1, 0, 0, 99));
        Checks.outOfRange("there are 48 entries, and the name is out of range", () -> x.add(1, 0, 0, 100));
        Checks.is("each master has its own", x.live(3), 13);
        x.delete(0, 4);
        Checks.notTaken("deleted ones count", () -> x.add(0, 0, 0, 99));
        Checks.is("the last one is there", x.nameOf(3, 47), 47);
    }

    private static void addValue() {
        MasterTree x = start();
        x.add(0, 0, 0, 1);
        Checks.noSuch("no master", () -> x.addValue(4, 1, 0, 0));
        Checks.noSuch("the root", () -> x.addValue(0, 0, 0, 0));
        Checks.noSuch("no entry", () -> x.addValue(0, 2, 0, 0));
        Checks.noSuch("no entry there", () -> x.addValue(1, 1, 0, 0));
        Checks.noSuch("no attribute", () -> x.addValue(0, 1, 5, 1000));
        Checks.outOfRange("value 1000", () -> x.addValue(0, 1, 0, 1000));
        Checks.outOfRange("value -1", () -> x.addValue(0, 1, 4, -1));
        Checks.notTaken("not allowed", () -> x.addValue(0, 1, 4, 0));
        Checks.is("one value", x.addValue(0, 1, 0, 0), 1);
        Checks.is("two values", x.addValue(0, 1, 0, 999), 2);
        Checks.notTaken("it has it", () -> x.addValue(0, 1, 0, 999));
        Checks.is("by tens", x.addValue(0, 1, 1, 995), 1);
        Checks.notTaken("it matches", () -> x.addValue(0, 1, 1, 990));
        Checks.notTaken("it matches", () -> x.addValue(0, 1, 1, 999));
        Checks.is("it does not match", x.addValue(0, 1, 1, 989), 2);
        Checks.is("single", x.addValue(0, 1, 2, 7), 1);
        Checks.notTaken("a second one", () -> x.addValue(0, 1, 2, 8));
        Checks.is("what was refused is not there", x.valueAt(0, 1, 2, 1), MasterTree.NONE);
        Checks.is("as many changes as taken", x.knows(0, 0), 6);
    }

    private static void removeValue() {
        MasterTree x = start();
        x.draft(0, 5);
        x.draft(0, 6);
        x.draft(1, 33);
        x.draft(2, 9);
        x.add(0, 0, 1, 1);
        Checks.noSuch("no master", () -> x.removeValue(-1, 1, 0, 5));
        Checks.noSuch("the root", () -> x.removeValue(0, 0, 0, 5));
        Checks.noSuch("no entry there", () -> x.removeValue(1, 1, 0, 5));
        Checks.noSuch("no attribute", () -> x.removeValue(0, 1, 5, 1000));
        Checks.outOfRange("value 1000", () -> x.removeValue(0, 1, 0, 1000));
        Checks.outOfRange("value -1", () -> x.removeValue(0, 1, 0, -1));
        Checks.notTaken("it has not this one", () -> x.removeValue(0, 1, 0, 7));
        Checks.notTaken("it has none", () -> x.removeValue(0, 1, 3, 7));
        Checks.is("one of two", x.removeValue(0, 1, 0, 5), 1);
        Checks.notTaken("the last one that is required", () -> x.removeValue(0, 1, 0, 6));
        Checks.notTaken("it does not match by tens", () -> x.removeValue(0, 1, 1, 40));
        Checks.is("it matches by tens", x.removeValue(0, 1, 1, 39), 0);
        Checks.is("it is gone", x.valueAt(0, 1, 1, 0), MasterTree.NONE);
        Checks.is("the single one", x.removeValue(0, 1, 2, 9), 0);
        Checks.is("what was refused is there", x.valueAt(0, 1, 0, 0), 6);
    }

    private static void replace() {
        MasterTree x = start();
        x.draft(0, 5);
        x.draft(0, 6);
        x.add(0, 0, 1, 1);
        Checks.noSuch("no master", () -> x.replace(9, 1, 0, 5));
        Checks.noSuch("the root", () -> x.replace(0, 0, 0, 5));
        Checks.noSuch("no entry there", () -> x.replace(1, 1, 0, 5));
        Checks.noSuch("no attribute", () -> x.replace(0, 1, -1, 1000));
        Checks.outOfRange("value 1000", () -> x.replace(0, 1, 0, 1000));
        Checks.outOfRange("value -1", () -> x.replace(0, 1, 4, -1));
        Checks.notTaken("not allowed", () -> x.replace(0, 1, 4, 5));
        Checks.is("it had two", x.replace(0, 1, 0, 6), 2);
        Checks.is("it has one", x.valuesAnew(0, 1, 0), 1);
        Checks.is("this one", x.valueAt(0, 1, 0, 0), 6);
        Checks.is("it had none", x.replace(0, 1, 1, 12), 0);
        Checks.is("it had one", x.replace(0, 1, 1, 13), 1);
        Checks.is("this one", x.valueAt(0, 1, 1, 0), 13);
        Checks.is("no other one", x.valueAt(0, 1, 1, 1), MasterTree.NONE);
    }

    private static void rename() {
        MasterTree x = start();
        x.add(0, 0, 0, 1);
        x.add(0, 0, 0, 2);
        x.add(0, 1, 0, 3);
        Checks.noSuch("no master", () -> x.rename(4, 1, 0));
        Checks.noSuch("the root", () -> x.rename(0, 0, 0));
        Checks.noSuch("no entry there", () -> x.rename(1, 1, 100));
        Checks.outOfRange("name 100", () -> x.rename(0, 1, 100));
        Checks.outOfRange("name -1", () -> x.rename(0, 1, -1));
        Checks.notTaken("a sibling is shown so", () -> x.rename(0, 1, 2));
        Checks.is("its own name", x.rename(0, 1, 1), 1);
        Checks.is("a name from another place", x.rename(0, 1, 3), 1);
        Checks.is("its name", x.nameOf(0, 1), 3);
        Checks.is("what it was", x.rename(0, 1, 99), 3);
        clashingNames();
    }

    private static void clashingNames() {
        MasterTree x = start();
        x.add(0, 0, 0, 8);
        x.add(1, 0, 0, 8);
        x.exchange(0, 1, 250);
        x.exchange(1, 0, 250);
        Checks.is("the first one has the name", x.nameOf(0, 1), 8);
        Checks.is("the other one clashes", x.nameOf(0, 2), 102);
        Checks.notTaken("the name is the other one's", () -> x.rename(0, 2, 8));
        Checks.is("the first one may have its own", x.rename(0, 1, 8), 8);
        Checks.is("what a clashing one is shown with", x.rename(0, 2, 9), 102);
        Checks.is("no clash then", x.conflicts(0, 0), 0);
        Checks.notTaken("no third one with the name", () -> x.add(0, 0, 0, 8));
    }

    private static void move() {
        MasterTree x = start();
        x.add(0, 0, 0, 1);
        x.add(0, 1, 0, 2);
        x.add(0, 2, 0, 3);
        x.add(0, 0, 0, 3);
        Checks.noSuch("no master", () -> x.move(4, 1, 0));
        Checks.noSuch("the root", () -> x.move(0, 0, 1));
        Checks.noSuch("no such parent", () -> x.move(0, 1, 9));
        Checks.noSuch("LOST is no parent", () -> x.move(0, 1, MasterTree.LOST));
        Checks.noSuch("no entry there", () -> x.move(1, 1, 0));
        Checks.notTaken("itself", () -> x.move(0, 1, 1));
        Checks.notTaken("one beneath it", () -> x.move(0, 1, 2));
        Checks.notTaken("one far beneath it", () -> x.move(0, 1, 3));
        Checks.notTaken("the name is shown there", () -> x.move(0, 4, 2));
        Checks.is("where it was", x.move(0, 3, 1), 2);
        Checks.is("where it is", x.parentOf(0, 3), 1);
        Checks.is("to where it is", x.move(0, 3, 1), 1);
        Checks.notTaken("the name is shown at the root", () -> x.move(0, 3, 0));
        Checks.is("then it is free there", x.move(0, 4, 2), 0);
        Checks.is("its place", x.childAt(0, 2, 0), 4);
        Checks.is("all that is at the root", x.childAt(0, 0, 1), MasterTree.NONE);
        moveOfClashing();
        moveUnderDeleted();
    }

    private static void moveOfClashing() {
        MasterTree x = start();
        x.add(0, 0, 0, 8);
        x.add(1, 0, 0, 8);
        x.exchange(1, 0, 250);
        x.add(0, 1, 0, 5);
        x.add(0, 1, 0, 8);
        Checks.notTaken("to where its name is another one's", () -> x.move(0, 2, 0));
        Checks.is("to where its name is its own", x.move(0, 1, 0), 0);
        Checks.notTaken("its name without clashes is shown there", () -> x.move(0, 2, 1));
        Checks.is("it is not shown there", x.move(0, 2, 3), 0);
        Checks.is("it clashes no more", x.nameOf(0, 2), 8);
    }

    private static void moveUnderDeleted() {
        MasterTree x = start();
        x.add(0, 0, 0, 1);
        x.add(0, 1, 0, 2);
        x.exchange(0, 1, 250);
        x.delete(0, 2);
        x.add(1, 2, 0, 3);
        x.exchange(1, 0, 250);
        Checks.is("an orphan", x.parentOf(0, 3), MasterTree.LOST);
        Checks.notTaken("its deleted parent's parent would come beneath itself", () -> x.move(0, 1, 3));
        Checks.is("from LOST", x.move(0, 3, 1), MasterTree.LOST);
        Checks.is("no orphan then", x.conflicts(0, 1), 0);
    }

    private static void delete() {
        MasterTree x = start();
        x.add(0, 0, 0, 1);
        x.add(0, 1, 0, 2);
        x.add(0, 0, 0, 3);
        Checks.noSuch("no master", () -> x.delete(4, 1));
        Checks.noSuch("the root", () -> x.delete(0, 0));
        Checks.noSuch("no entry there", () -> x.delete(1, 1));
        Checks.notTaken("there is one at it", () -> x.delete(0, 1));
        Checks.is("the first mark", x.delete(0, 2), 1);
        Checks.noSuch("it is deleted", () -> x.delete(0, 2));
        Checks.is("the second mark", x.delete(0, 1), 2);
        Checks.is("the others live", x.live(0), 2);
        Checks.noSuch("no name", () -> x.nameOf(0, 1));
        Checks.noSuch("no child", () -> x.add(0, 1, 0, 4));
        Checks.is("the name is free", x.add(0, 0, 0, 1), 4);
    }

    private static void link() {
        MasterTree x = start();
        x.add(0, 0, 0, 1);
        x.add(0, 0, 0, 2);
        x.add(1, 0, 0, 3);
        Checks.noSuch("no master", () -> x.link(4, 1, 2));
        Checks.noSuch("the root", () -> x.link(0, 0, 2));
        Checks.noSuch("no entry there", () -> x.link(1, 1, -1));
        Checks.noSuch("no target there", () -> x.link(0, 1, 3));
        Checks.noSuch("no target 47", () -> x.link(0, 1, 47));
        Checks.noSuch("no target 99", () -> x.link(0, 1, 99));
        Checks.noSuch("no target 104", () -> x.link(0, 1, 104));
        Checks.noSuch("no target -2", () -> x.link(0, 1, -2));
        Checks.notTaken("itself", () -> x.link(0, 1, 1));
        Checks.is("it was none", x.link(0, 1, 2), MasterTree.NONE);
        Checks.is("it was an alias", x.link(0, 1, 100), 2);
        Checks.is("it was a referral", x.link(0, 1, 103), 100);
        Checks.is("the root as a target", x.link(0, 1, 0), 103);
        Checks.is("none again", x.link(0, 1, MasterTree.NONE), 0);
        Checks.is("it is none", x.linkOf(0, 1), MasterTree.NONE);
        x.link(0, 1, 2);
        x.delete(0, 2);
        Checks.is("an alias to a deleted one stays", x.linkOf(0, 1), 2);
        Checks.noSuch("a deleted one is no target", () -> x.link(0, 1, 2));
    }

    private static void rule() {
        MasterTree x = start();
        x.add(0, 0, 0, 1);
        Checks.noSuch("no master", () -> x.rule(4, 1, 1, 0, 0, 1));
        Checks.noSuch("no entry there", () -> x.rule(1, 1, 1, 0, 0, 1));
        Checks.noSuch("no subject 6", () -> x.rule(0, 1, 6, 0, 0, 1));
        Checks.noSuch("no subject 99", () -> x.rule(0, 1, 99, 0, 0, 1));
        Checks.noSuch("no subject -2", () -> x.rule(0, 1, -2, 0, 0, 1));
        Checks.noSuch("no group 102", () -> x.rule(0, 1, 102, 0, 0, 1));
        Checks.noSuch("no group 148", () -> x.rule(0, 1, 148, 0, 0, 3));
        Checks.noSuch("no scope 3", () -> x.rule(0, 1, 1, 3, 0, 3));
        Checks.noSuch("no scope -1", () -> x.rule(0, 1, 1, -1, 0, 1));
        Checks.noSuch("no right 2", () -> x.rule(0, 1, 1, 0, 2, 3));
        Checks.noSuch("no right -1", () -> x.rule(0, 1, 1, 0, -1, 1));
        Checks.outOfRange("says 3", () -> x.rule(0, 1, 1, 0, 0, 3));
        Checks.outOfRange("says -1", () -> x.rule(0, 1, 1, 0, 0, -1));
        Checks.is("nothing at first", x.rule(0, 1, 0, 0, 0, MasterTree.DENY), MasterTree.NOTHING);
        Checks.is("deny", x.rule(0, 1, 0, 0, 0, MasterTree.ALLOW), MasterTree.DENY);
        Checks.is("allow", x.rule(0, 1, 0, 0, 0, MasterTree.NOTHING), MasterTree.ALLOW);
        Checks.is("nothing", x.rule(0, 1, 0, 0, 0, MasterTree.NOTHING), MasterTree.NOTHING);
        x.rule(0, 1, 101, 2, 1, MasterTree.ALLOW);
        Checks.is("another subject", x.rule(0, 1, MasterTree.ALL, 2, 1, MasterTree.DENY), MasterTree.NOTHING);
        Checks.is("another user", x.rule(0, 1, 5, 2, 1, 0), MasterTree.NOTHING);
        Checks.is("another group", x.rule(0, 1, 100, 2, 1, 0), MasterTree.NOTHING);
        Checks.is("another scope", x.rule(0, 1, 101, 1, 1, 0), MasterTree.NOTHING);
        Checks.is("another right", x.rule(0, 1, 101, 2, 0, 0), MasterTree.NOTHING);
        Checks.is("another entry", x.rule(0, 0, 101, 2, 1, 0), MasterTree.NOTHING);
        Checks.is("the same", x.rule(0, 1, 101, 2, 1, 0), MasterTree.ALLOW);
        Checks.is("the same for all", x.rule(0, 1, MasterTree.ALL, 2, 1, 0), MasterTree.DENY);
    }

    /** Each operation needs the right to write, on the entries that the document names. */
    private static void rights() {
        MasterTree x = start();
        x.draft(0, 8);
        x.draft(0, 9);
        x.add(0, 0, 0, 1);
        x.add(0, 0, 0, 2);
        x.add(0, 1, 0, 3);
        x.serve(0, 4);
        Checks.notTaken("add", () -> x.add(0, 1, 0, 5));
        Checks.notTaken("addValue", () -> x.addValue(0, 1, 0, 5));
        Checks.notTaken("removeValue", () -> x.removeValue(0, 1, 0, 8));
        Checks.notTaken("replace", () -> x.replace(0, 1, 0, 8));
        Checks.notTaken("rename", () -> x.rename(0, 1, 5));
        Checks.notTaken("move", () -> x.move(0, 3, 2));
        Checks.notTaken("delete", () -> x.delete(0, 2));
        Checks.notTaken("link", () -> x.link(0, 1, 2));
        Checks.notTaken("rule", () -> x.rule(0, 1, 4, 0, 1, 1));
        Checks.is("another master serves another user", x.add(1, 0, 0, 7), 4);
        x.serve(0, 0);
        x.rule(0, 1, 4, 0, 1, MasterTree.ALLOW);
        x.rule(0, 3, 4, 0, 1, MasterTree.ALLOW);
        x.serve(0, 4);
        Checks.notTaken("no right on the new parent", () -> x.move(0, 3, 2));
        Checks.notTaken("no right on the root", () -> x.add(0, 0, 0, 9));
        Checks.is("the right on the parent is enough", x.add(0, 1, 0, 9), 5);
        Checks.notTaken("and none on the new one", () -> x.rename(0, 5, 10));
        Checks.is("rename", x.rename(0, 1, 50), 1);
        Checks.is("addValue", x.addValue(0, 1, 0, 5), 3);
        Checks.is("removeValue", x.removeValue(0, 1, 0, 5), 2);
        Checks.is("replace", x.replace(0, 1, 0, 5), 2);
        Checks.is("link", x.link(0, 1, 2), MasterTree.NONE);
        Checks.is("rule", x.rule(0, 1, 3, 0, 1, MasterTree.ALLOW), MasterTree.NOTHING);
        x.serve(0, 0);
        x.rule(0, 2, 4, 0, 1, MasterTree.ALLOW);
        x.rule(0, 3, 4, 0, 1, MasterTree.NOTHING);
        x.serve(0, 4);
        Checks.notTaken("no right on the one to be moved", () -> x.move(0, 3, 2));
        Checks.is("delete", x.delete(0, 2), 1);
        x.serve(0, 0);
        Checks.is("the user 0 needs none", x.move(0, 3, 0), 1);
    }

    private static void changesLimit() {
        MasterTree x = start();
        x.draft(0, 1);
        x.draft(0, 2);
        x.add(0, 0, 0, 1);
        x.add(0, 0, 0, 2);
        x.add(1, 0, 0, 3);
        for (int count = 3; count < 249; count++) {
            Checks.is("links", x.link(0, 2, count % 2 == 0 ? 1 : -1), count == 3 || count % 2 == 0 ? -1 : 1);
        }
        Checks.is("the 250th change", x.rename(1, 3, 30), 3);
        Checks.notTaken("add", () -> x.add(0, 0, 0, 5));
        Checks.notTaken("addValue", () -> x.addValue(0, 1, 0, 5));
        Checks.notTaken("removeValue", () -> x.removeValue(0, 1, 0, 1));
        Checks.notTaken("replace", () -> x.replace(0, 1, 0, 5));
        Checks.notTaken("rename", () -> x.rename(1, 3, 5));
        Checks.notTaken("move", () -> x.move(0, 1, 2));
        Checks.notTaken("delete", () -> x.delete(0, 1));
        Checks.notTaken("link", () -> x.link(0, 1, 2));
        Checks.notTaken("rule", () -> x.rule(0, 1, 1, 0, 0, 1));
        Checks.outOfRange("a rule that is out of range", () -> x.rule(0, 1, 1, 0, 0, 3));
        Checks.noSuch("a link to nothing", () -> x.link(0, 1, 104));
        Checks.is("all that one made", x.exchange(0, 2, 250), 248);
        Checks.is("all that the other one made", x.exchange(1, 2, 250), 2);
        Checks.is("none are left", x.exchange(2, 0, 250), 2);
        Checks.is("both have all", x.areAlike(0, 2), true);
    }
}
