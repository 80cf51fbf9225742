/** What is as large, as deep and as long as the document lets it be, in runs of at most 512 calls. */
final class LimitsTest {
    private static final int ENTRIES = 48;

    private LimitsTest() {
    }

    public static void main(String[] args) {
        deepTree();
        deepFollow();
        wideTree();
        longestChainOfLinks();
        manyValues();
        greatestValues();
        lastAttribute();
        groupOfEachEntry();
        anewAtEachMaster();
        lateChanges();
        Checks.end("LimitsTest");
    }

    private static MasterTree start() {
        MasterTree x = new MasterTree();
        x.attribute(false, false);
        x.attribute(true, false);
        x.objectClass(-1, 0, 3);
        return x;
    }

    /** Each entry is at the one before it. */
    private static MasterTree chain() {
        MasterTree x = start();
        for (int entry = 1; entry < ENTRIES; entry++) {
            Checks.is("a link of the chain", x.add(0, entry - 1, 0, entry), entry);
        }
        return x;
    }

    private static void deepTree() {
        MasterTree x = chain();
        Checks.notTaken("the last one is beneath the first one", () -> x.move(0, 1, 47));
        Checks.notTaken("and beneath the second one", () -> x.move(0, 2, 47));
        x.rule(0, 0, 3, 2, 1, MasterTree.ALLOW);
        Checks.is("the root's rule reaches the last one", x.may(0, 3, 47, 1), true);
        x.has(0);
        x.not();
        Checks.is("all, by indexes", x.search(0, 0, 2), 48);
        Checks.is("the last one", x.found(47), 47);
        Checks.is("all, by walking", x.searchByWalk(0, 0, 2), 48);
        Checks.is("without the root", x.search(0, 1, 2), 47);
        Checks.is("the last one alone", x.search(0, 47, 2), 1);
        x.rule(0, 0, 3, 2, 0, MasterTree.DENY);
        x.serve(0, 3);
        Checks.is("none that the user may read", x.search(0, 0, 2), 0);
        Checks.is("none, by walking", x.searchByWalk(0, 0, 2), 0);
        Checks.is("where the last one is moved from", x.move(0, 47, 0), 46);
    }

    private static void deepFollow() {
        MasterTree x = chain();
        x.ofClass(0);
        Checks.is("all but the root", x.follow(0, 0, 2), 47);
        for (int index = 0; index < 47; index++) {
            Checks.is("from above", x.found(index), index + 1);
        }
        x.exchange(0, 3, 250);
        x.link(0, 47, 103);
        x.link(3, 47, 1);
        Checks.is("on at the other master, where the ring ends", x.follow(0, 0, 2), 92);
        Checks.is("the last one here", x.found(45), 46);
        Checks.is("the first one there", x.found(46), 301);
        Checks.is("the last one there", x.found(91), 346);
    }

    private static void wideTree() {
        MasterTree x = start();
        for (int entry = 1; entry < ENTRIES; entry++) {
            Checks.is("an entry at the root", x.add(0, 0, 0, 99 - entry), entry);
        }
        x.ofClass(0);
        Checks.is("children, by indexes", x.search(0, 0, 1), 47);
        Checks.is("children, by walking", x.searchByWalk(0, 0, 1), 47);
        Checks.is("all, by walking", x.searchByWalk(0, 0, 2), 47);
        Checks.is("children, followed", x.follow(0, 0, 1), 47);
        for (int index = 0; index < 47; index++) {
            Checks.is("followed by rising names", x.found(index), 47 - index);
            Checks.is("child by rising names", x.childAt(0, 0, index), 47 - index);
        }
        Checks.is("no more", x.childAt(0, 0, 47), MasterTree.NONE);
    }

    /** Aliases from the first to the last entry, a referral to the next master, and back there. */
    private static void longestChainOfLinks() {
        MasterTree x = start();
        for (int entry = 1; entry < ENTRIES; entry++) {
            x.add(0, 0, 0, entry);
        }
        for (int master = 1; master < 4; master++) {
            x.exchange(0, master, 250);
        }
        for (int master = 0; master < 4; master++) {
            int step = master % 2 == 0 ? 1 : -1;
            int last = master % 2 == 0 ? 47 : 1;
            for (int entry = 48 - last; entry != last; entry += step) {
                x.link(master, entry, entry + step);
            }
            if (master < 3) {
                x.link(master, last, 100 + master + 1);
            }
        }
        x.ofClass(0);
        for (int scope = 0; scope < 3; scope += 2) {
            Checks.is("one is at the end", x.follow(0, 1, scope), 1);
            Checks.is("this one", x.found(0), 301);
        }
        x.link(3, 1, 100);
        Checks.is("none is at the end of a ring", x.follow(0, 1, 0), 0);
        Checks.is("nor within it", x.follow(2, 20, 2), 0);
    }

    /** As many values as 512 calls can give. */
    private static void manyValues() {
        MasterTree x = start();
        for (int entry = 1; entry < 21; entry++) {
            for (int value = 0; value < 12; value++) {
                x.draft(0, 999 - value * 7 - entry);
            }
            x.add(0, 0, 0, entry);
        }
        for (int value = 0; value < 225; value++) {
            Checks.is("one more", x.addValue(0, 20, 0, value * 2), 13 + value);
        }
        Checks.is("all of the last one", x.valuesAnew(0, 20, 0), 237);
        Checks.is("the last one's greatest", x.valueAt(0, 20, 0, 236), 979);
        Checks.is("the first one's least", x.valueAt(0, 1, 0, 0), 921);
        x.has(0);
        Checks.is("all entries", x.search(0, 0, 2), 20);
        x.wipe();
        x.equal(0, 998);
        Checks.is("the first one's greatest", x.search(0, 0, 2), 1);
        x.wipe();
        x.equal(0, 448);
        Checks.is("the last value that came", x.search(0, 0, 2), 1);
        Checks.is("its entry", x.found(0), 20);
        Checks.is("all are got", x.exchange(0, 1, 250), 245);
        Checks.is("alike", x.areAlike(0, 1), true);
    }

    private static void greatestValues() {
        MasterTree x = start();
        x.draft(0, 999);
        x.draft(1, 999);
        x.add(0, 0, 0, 1);
        x.exchange(0, 1, 250);
        x.replace(0, 1, 0, 0);
        x.removeValue(0, 1, 1, 999);
        x.addValue(0, 1, 1, 0);
        Checks.is("a replacement takes 999", x.valueAt(0, 1, 0, 1), MasterTree.NONE);
        Checks.is("and brings 0", x.valueAt(0, 1, 0, 0), 0);
        x.removeValue(1, 1, 1, 999);
        x.addValue(1, 1, 1, 999);
        x.exchange(0, 1, 250);
        x.exchange(1, 0, 250);
        Checks.is("the stamp 4 comes behind the stamp 3", x.valueAt(0, 1, 1, 0), 0);
        Checks.is("and takes 999", x.valueAt(0, 1, 1, 1), MasterTree.NONE);
        x.replace(0, 1, 1, 999);
        x.exchange(0, 1, 250);
        x.removeValue(1, 1, 1, 999);
        x.removeValue(0, 1, 1, 999);
        x.addValue(0, 1, 1, 999);
        x.addValue(1, 1, 1, 0);
        x.exchange(1, 0, 250);
        Checks.is("0 behind 999 in a single one", x.valueAt(0, 1, 1, 0), 0);
        Checks.is("999 has gone", x.valueAt(0, 1, 1, 1), MasterTree.NONE);
    }

    private static void lastAttribute() {
        MasterTree x = new MasterTree();
        for (int attribute = 0; attribute < 10; attribute++) {
            x.attribute(false, false);
        }
        x.objectClass(-1, 512, 0);
        x.draft(9, 999);
        x.add(0, 0, 0, 1);
        x.exchange(0, 1, 250);
        Checks.is("alike with the last value of all", x.areAlike(0, 1), true);
        x.addValue(0, 1, 9, 0);
        x.removeValue(0, 1, 9, 999);
        Checks.is("not alike by the last value of all", x.areAlike(0, 1), false);
        x.addValue(1, 1, 9, 0);
        Checks.is("nor by that one more", x.areAlike(1, 0), false);
        x.removeValue(1, 1, 9, 999);
        Checks.is("alike", x.areAlike(0, 1), true);
        x.exchange(1, 0, 250);
        Checks.is("complete with the last attribute", x.conflicts(0, 2), 0);
    }

    /** Each entry is a group of its own, up to the last one; the root is none of them. */
    private static void groupOfEachEntry() {
        MasterTree x = start();
        x.rule(0, 0, 100, 2, 1, MasterTree.ALLOW);
        for (int entry = 1; entry < ENTRIES; entry++) {
            x.draft(0, 4);
            x.add(0, 0, 0, entry);
            Checks.is("a member of other groups", x.may(0, 4, 0, 1), false);
        }
        for (int entry = 1; entry < ENTRIES; entry++) {
            x.rule(0, 0, 100 + entry, 2, 1, MasterTree.ALLOW);
            Checks.is("a member of this group", x.may(0, 4, entry, 1), true);
            Checks.is("no member", x.may(0, 5, entry, 1), false);
            Checks.is("it said this", x.rule(0, 0, 100 + entry, 2, 1, MasterTree.NOTHING), MasterTree.ALLOW);
        }
        Checks.is("no group is left", x.may(0, 4, 1, 1), false);
        Checks.is("the rule for the root is left", x.rule(0, 0, 100, 2, 1, 0), MasterTree.ALLOW);
    }

    /** What is done anew for one master leaves nothing behind for the next one. */
    private static void anewAtEachMaster() {
        MasterTree x = start();
        x.add(0, 0, 0, 1);
        x.add(0, 0, 0, 2);
        x.add(0, 1, 0, 3);
        x.exchange(0, 1, 250);
        x.addValue(0, 3, 0, 5);
        x.addValue(0, 3, 0, 6);
        x.move(0, 3, 2);
        x.delete(0, 3);
        x.delete(0, 2);
        Checks.is("the master 0", x.parentAnew(0, 1), 0);
        Checks.is("values at the master 1", x.valuesAnew(1, 3, 0), 0);
        Checks.is("the parent at the master 1", x.parentAnew(1, 3), 1);
        x.move(1, 3, 2);
        Checks.is("the master 0 again", x.valuesAnew(0, 1, 0), 0);
        Checks.is("deleted at the master 0 alone", x.parentAnew(1, 3), 2);
        Checks.is("values still", x.valuesAnew(1, 3, 0), 0);
    }

    /** Changes that come late are done where they are in order, and not behind those that were known. */
    private static void lateChanges() {
        MasterTree x = start();
        x.add(0, 0, 0, 1);
        x.add(0, 0, 0, 2);
        x.exchange(0, 1, 250);
        x.addValue(0, 1, 0, 7);
        x.rename(0, 1, 30);
        x.link(0, 1, 2);
        x.rule(0, 1, 3, 2, 0, MasterTree.DENY);
        x.rule(1, 2, 3, 2, 0, MasterTree.DENY);
        x.rule(1, 1, 3, 2, 0, MasterTree.ALLOW);
        x.rename(1, 1, 40);
        x.link(1, 1, 101);
        x.rename(1, 1, 41);
        x.exchange(0, 1, 250);
        x.exchange(1, 0, 250);
        for (int master = 0; master < 2; master++) {
            Checks.is("the last name", x.nameOf(master, 1), 41);
            Checks.is("the last link", x.linkOf(master, 1), 101);
            Checks.is("the last rule", x.may(master, 3, 1, 0), false);
            Checks.is("the value", x.valueAt(master, 1, 0, 0), 7);
        }
    }
}
