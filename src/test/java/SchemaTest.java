/** Promises 1 to 6: a new object, the schema, whom masters serve, and drafted values. */
final class SchemaTest {
    private SchemaTest() {
    }

    public static void main(String[] args) {
        newObject();
        attribute();
        objectClass();
        inheritance();
        serve();
        draft();
        undraft();
        Checks.end("SchemaTest");
    }

    private static void newObject() {
        MasterTree x = new MasterTree();
        for (int master = 0; master < 4; master++) {
            int at = master;
            Checks.is("live of a new object", x.live(master), 1);
            Checks.is("name of the root", x.nameOf(master, 0), 0);
            Checks.is("parent of the root", x.parentOf(master, 0), MasterTree.NONE);
            Checks.is("link of the root", x.linkOf(master, 0), MasterTree.NONE);
            Checks.is("marks of a new object", x.marks(master), 0);
            Checks.is("children of the root", x.childAt(master, 0, 0), MasterTree.NONE);
            Checks.is("children at LOST", x.childAt(master, MasterTree.LOST, 0), MasterTree.NONE);
            Checks.is("the user 0 is served", x.serve(master, 0), 0);
            Checks.noSuch("entry 1 of a new object", () -> x.nameOf(at, 1));
            for (int other = 0; other < 4; other++) {
                Checks.is("knows of a new object", x.knows(master, other), 0);
                Checks.is("new masters are alike", x.areAlike(master, other), true);
            }
            for (int sort = 0; sort < 3; sort++) {
                Checks.is("conflicts of a new object", x.conflicts(master, sort), 0);
            }
        }
        Checks.noSuch("a new object has no attribute", () -> x.draft(0, 0));
        Checks.noSuch("a new object has no class", () -> x.ofClass(0));
        Checks.noSuch("a new object has found nothing", () -> x.found(0));
        Checks.is("a new object has no drafted values", x.undraft(), 0);
        Checks.is("a new object has no filters", x.wipe(), 0);
        Checks.is("no group without an attribute", x.rule(0, 0, 100, 0, 0, MasterTree.DENY), 0);
        Checks.is("a rule for the root as a group does not apply", x.may(0, 1, 0, 0), true);
    }

    private static void attribute() {
        MasterTree x = new MasterTree();
        for (int number = 0; number < 10; number++) {
            Checks.is("attribute", x.attribute(number % 2 == 1, number % 4 > 1), number);
        }
        Checks.notTaken("the eleventh attribute", () -> x.attribute(false, false));
        Checks.is("the tenth one is there", x.has(9), 1);
        Checks.noSuch("no eleventh one", () -> x.has(10));
        x.objectClass(-1, 0, 1023);
        x.add(0, 0, 0, 1);
        for (int attribute = 0; attribute < 10; attribute++) {
            int a = attribute;
            boolean isSingle = attribute % 2 == 1;
            boolean isByTens = attribute % 4 > 1;
            Checks.is("the first value", x.addValue(0, 1, attribute, 25), 1);
            Checks.notTaken("the same value", () -> x.addValue(0, 1, a, 25));
            if (isSingle || isByTens) {
                Checks.notTaken("a value that matches, or a second one", () -> x.addValue(0, 1, a, 20));
            } else {
                Checks.is("another value of the ten", x.addValue(0, 1, attribute, 20), 2);
            }
            if (isSingle) {
                Checks.notTaken("a second value of a single one", () -> x.addValue(0, 1, a, 30));
            } else {
                Checks.is("a value of another ten", x.addValue(0, 1, attribute, 30), isByTens ? 2 : 3);
            }
        }
    }

    private static void objectClass() {
        MasterTree x = new MasterTree();
        Checks.noSuch("the first class is no parent of itself", () -> x.objectClass(0, 0, 0));
        Checks.noSuch("no such parent", () -> x.objectClass(-2, 0, 0));
        Checks.noSuch("no attribute 0 to require", () -> x.objectClass(-1, 1, 0));
        Checks.noSuch("no attribute 0 to allow", () -> x.objectClass(-1, 0, 1));
        Checks.noSuch("no attribute 31", () -> x.objectClass(-1, Integer.MIN_VALUE, 0));
        x.attribute(false, false);
        x.attribute(false, false);
        Checks.noSuch("no attribute 2 to require", () -> x.objectClass(-1, 4, 0));
        Checks.noSuch("no attribute 2 to allow", () -> x.objectClass(-1, 0, 4));
        Checks.noSuch("all bits", () -> x.objectClass(-1, 0, -1));
        Checks.is("the first class", x.objectClass(MasterTree.NONE, 3, 3), 0);
        for (int number = 1; number < 8; number++) {
            Checks.is("class", x.objectClass(number - 1, 0, 0), number);
        }
        Checks.notTaken("the ninth class", () -> x.objectClass(-1, 0, 0));
        Checks.noSuch("a ninth class, no such attribute", () -> x.objectClass(-1, 8, 0));
        Checks.noSuch("a ninth class, no such parent", () -> x.objectClass(8, 0, 0));
        Checks.noSuch("no ninth class", () -> x.ofClass(8));
        Checks.is("the eighth class", x.ofClass(7), 1);
    }

    private static void inheritance() {
        MasterTree x = new MasterTree();
        for (int number = 0; number < 4; number++) {
            x.attribute(false, false);
        }
        x.objectClass(-1, 1, 2);
        x.objectClass(0, 4, 0);
        x.objectClass(1, 0, 0);
        x.objectClass(-1, 0, 0);
        x.draft(2, 1);
        Checks.notTaken("what the parent's parent requires is required", () -> x.add(0, 0, 2, 1));
        x.undraft();
        x.draft(0, 1);
        Checks.notTaken("what the parent requires is required", () -> x.add(0, 0, 2, 1));
        x.draft(2, 1);
        x.draft(3, 1);
        Checks.notTaken("what no class allows is not allowed", () -> x.add(0, 0, 2, 1));
        x.undraft();
        x.draft(0, 1);
        x.draft(2, 1);
        x.draft(1, 1);
        Checks.is("what the parent's parent allows is allowed", x.add(0, 0, 2, 1), 1);
        Checks.notTaken("what the parent requires stays required", () -> x.removeValue(0, 1, 2, 1));
        Checks.notTaken("what the parent's parent requires stays required", () -> x.removeValue(0, 1, 0, 1));
        Checks.is("what is allowed alone goes", x.removeValue(0, 1, 1, 1), 0);
        Checks.is("what is required comes", x.addValue(0, 1, 2, 2), 2);
        Checks.is("the other class is not beneath them", x.add(0, 0, 3, 2), 2);
        Checks.notTaken("it allows nothing", () -> x.addValue(0, 2, 0, 1));
        Checks.notTaken("it allows nothing", () -> x.replace(0, 2, 1, 1));
    }

    private static void serve() {
        MasterTree x = new MasterTree();
        Checks.is("the user 0 at first", x.serve(1, 5), 0);
        Checks.is("then the user 5", x.serve(1, 3), 5);
        Checks.is("another master serves its own user", x.serve(0, 1), 0);
        Checks.noSuch("no user 6", () -> x.serve(1, 6));
        Checks.noSuch("no user -1", () -> x.serve(1, -1));
        Checks.noSuch("no master 4", () -> x.serve(4, 0));
        Checks.noSuch("no master -1", () -> x.serve(-1, 0));
        Checks.is("wrong calls change nothing", x.serve(1, 0), 3);
        Checks.is("master 3", x.serve(3, 0), 0);
    }

    private static void draft() {
        MasterTree x = new MasterTree();
        Checks.noSuch("no attribute", () -> x.draft(0, 1000));
        x.attribute(false, false);
        x.attribute(true, false);
        Checks.noSuch("no attribute 2", () -> x.draft(2, 0));
        Checks.noSuch("no attribute -1", () -> x.draft(-1, 0));
        Checks.outOfRange("value 1000", () -> x.draft(0, 1000));
        Checks.outOfRange("value -1", () -> x.draft(0, -1));
        Checks.is("value 0", x.draft(0, 0), 1);
        Checks.is("value 999", x.draft(1, 999), 2);
        for (int count = 3; count <= 12; count++) {
            Checks.is("as many as are drafted", x.draft(0, count), count);
        }
        Checks.notTaken("the thirteenth", () -> x.draft(0, 50));
        Checks.outOfRange("the thirteenth, out of range", () -> x.draft(0, 1000));
        Checks.noSuch("the thirteenth, of no attribute", () -> x.draft(2, 1000));
        x.objectClass(-1, 0, 3);
        Checks.is("all twelve are taken", x.add(2, 0, 0, 0), 1);
        Checks.is("there are none then", x.draft(0, 0), 1);
        int[] values = {0, 3, 4, 5, 6, 7, 8, 9, 10, 11, 12, MasterTree.NONE};
        for (int index = 0; index < values.length; index++) {
            Checks.is("value of the added entry", x.valueAt(2, 1, 0, index), values[index]);
        }
        Checks.is("value of the single one", x.valueAt(2, 1, 1, 0), 999);
    }

    private static void undraft() {
        MasterTree x = new MasterTree();
        x.attribute(false, false);
        x.objectClass(-1, 0, 0);
        x.draft(0, 4);
        x.draft(0, 4);
        Checks.notTaken("the class allows no values", () -> x.add(0, 0, 0, 0));
        Checks.is("a call that throws keeps what is drafted", x.undraft(), 2);
        Checks.is("all are dropped", x.undraft(), 0);
        Checks.is("then it is taken", x.add(0, 0, 0, 0), 1);
    }
}
