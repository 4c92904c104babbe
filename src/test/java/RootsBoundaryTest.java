/** The boundary cases of promises 5 to 7, 9, 10, 13 and 14, each sentence in a test of its own. */
public final class RootsBoundaryTest extends Checks {
    private static final int[] NUMBERS = {0, 1, -1, -2, LEAST, MOST};

    public static void main(String[] args) {
        runSentences(RootsBoundaryTest.class, 5, 6, 7, 9, 10, 13, 14);
    }

    // ---- 5: clear

    static void promise05ARootBecomesNil() {
        says("A root becomes NIL.");
        RegionPool x = withRegions(1);
        for (int root : new int[] {0, 15}) {
            x.clear(root);
            is("NIL stays NIL", x.root(root, 0), 0);
            x.number(root, 5);
            x.clear(root);
            is("a number's sort", x.root(root, 0), 0);
            is("a number's content", x.root(root, 1), 0);
            x.make(root, 0, PLAIN, 7, 1);
            x.clear(root);
            is("a reference's sort", x.root(root, 0), 0);
            is("a reference's content", x.root(root, 1), 0);
        }
        is("the objects are still there", x.count(2), 2);
    }

    static void promise05NoSuchRoot() {
        says("IndexOutOfBoundsException: there is no such root.");
        RegionPool x = new RegionPool();
        for (int no : NO_ROOTS) {
            noRoot("clear(" + no + ")", () -> x.clear(no));
            changesNothing("clear(" + no + ")", Checks::busy, y -> y.clear(no));
        }
    }

    // ---- 6: number

    static void promise06ARootBecomesANumber() {
        says("A root becomes a number.");
        RegionPool x = withRegions(1);
        for (int root : new int[] {0, 15}) {
            for (int v : NUMBERS) {
                x.make(root, 0, PLAIN, 1, 0);
                x.number(root, v);
                is("sort of " + v, x.root(root, 0), 1);
                is("the number " + v, x.root(root, 1), v);
                is("the kind of a number", x.root(root, 2), NONE);
            }
        }
    }

    static void promise06NoSuchRoot() {
        says("A root becomes a number. IndexOutOfBoundsException.");
        RegionPool x = new RegionPool();
        for (int no : NO_ROOTS) {
            noRoot("number(" + no + ", 1)", () -> x.number(no, 1));
            changesNothing("number(" + no + ", 1)", Checks::busy, y -> y.number(no, 1));
        }
    }

    // ---- 7: move

    static void promise07ToBecomesWhatFromIs() {
        says("Root to becomes what root from is.");
        RegionPool x = withRegions(1);
        x.make(0, 0, PLAIN, 7, 1);
        x.number(1, LEAST);
        x.move(15, 0);
        is("a reference", x.root(15, 0), 2);
        is("its tag", x.root(15, 3), 7);
        is("from stays", x.root(0, 3), 7);
        x.move(15, 1);
        is("a number", x.root(15, 1), LEAST);
        is("no reference any more", x.root(15, 0), 1);
        x.move(15, 2);
        is("NIL", x.root(15, 0), 0);
        is("NIL's content", x.root(15, 1), 0);
        is("no new object", x.count(2), 1);
    }

    static void promise07OntoItself() {
        says("Root to becomes what root from is.");
        changesNothing("move(0, 0)", Checks::busy, x -> x.move(0, 0));
        changesNothing("move(6, 6)", Checks::busy, x -> x.move(6, 6));
        changesNothing("move(15, 15)", Checks::busy, x -> x.move(15, 15));
    }

    static void promise07NoSuchRoot() {
        says("Root to becomes what root from is. IndexOutOfBoundsException.");
        RegionPool x = new RegionPool();
        for (int no : NO_ROOTS) {
            noRoot("move(" + no + ", 0)", () -> x.move(no, 0));
            noRoot("move(0, " + no + ")", () -> x.move(0, no));
            noRoot("move(" + no + ", " + no + ")", () -> x.move(no, no));
            changesNothing("move(" + no + ", 0)", Checks::busy, y -> y.move(no, 0));
            changesNothing("move(0, " + no + ")", Checks::busy, y -> y.move(0, no));
        }
    }

    // ---- 9: get

    static void promise09TheFirstAndTheLastField() {
        says("Root to becomes field i of the object to which root from refers: true.");
        RegionPool x = withRegions(1);
        x.make(0, 0, PLAIN, 1, 15);
        x.number(1, -1);
        x.put(0, 0, 1);
        x.put(0, 14, 0);
        is("get(15, 0, 0)", x.get(15, 0, 0), true);
        is("field 0", x.root(15, 1), -1);
        is("get(15, 0, 14)", x.get(15, 0, 14), true);
        is("field 14", x.root(15, 3), 1);
        is("get(15, 0, 13)", x.get(15, 0, 13), true);
        is("field 13", x.root(15, 0), 0);
        is("get(0, 0, 0)", x.get(0, 0, 0), true);
        is("onto the object's own root", x.root(0, 1), -1);
    }

    static void promise09NoSuchField() {
        says("false if there is no such field.");
        for (int fields : new int[] {0, 1, 15}) {
            RegionPool x = withRegions(1);
            x.make(0, 0, PLAIN, 1, fields);
            x.make(1, 0, PLAIN, 2, 5);
            x.number(2, 9);
            for (int i : new int[] {-1, fields, 15, 16, LEAST, MOST}) {
                is("field " + i + " of " + fields, x.get(2, 0, i), false);
                is("the root stays", x.root(2, 1), 9);
            }
        }
        changesNothing("get(6, 0, 3)", Checks::busy, x -> x.get(6, 0, 3));
        changesNothing("get(6, 0, -1)", Checks::busy, x -> x.get(6, 0, -1));
    }

    static void promise09NoSuchRoot() {
        says("IndexOutOfBoundsException: no such root.");
        RegionPool x = withRegions(1);
        x.make(0, 0, PLAIN, 1, 1);
        for (int no : NO_ROOTS) {
            noRoot("get(" + no + ", 0, 0)", () -> x.get(no, 0, 0));
            noRoot("get(0, " + no + ", 0)", () -> x.get(0, no, 0));
            noRoot("to, and no such field", () -> x.get(no, 0, 9));
            noRoot("to, and from is no reference", () -> x.get(no, 1, 0));
            changesNothing("get(" + no + ", 0, 1)", Checks::busy, y -> y.get(no, 0, 1));
        }
    }

    static void promise09FromIsNoReference() {
        says("IllegalStateException: from is no reference.");
        RegionPool x = withRegions(1);
        x.make(0, 0, PLAIN, 1, 1);
        x.number(1, 0);
        noReference("from a number", () -> x.get(0, 1, 0));
        noReference("from NIL", () -> x.get(0, 2, 0));
        noReference("from NIL, and no such field", () -> x.get(0, 2, -1));
        changesNothing("get(0, 6, 0)", Checks::busy, y -> y.get(0, 6, 0));
        changesNothing("get(0, 9, 0)", Checks::busy, y -> y.get(0, 9, 0));
    }

    // ---- 10: put

    static void promise10TheFirstAndTheLastField() {
        says("Field i of the object to which root refers becomes what root from is: 1");
        RegionPool x = withRegions(1);
        x.make(0, 0, PLAIN, 1, 15);
        x.make(1, 0, PLAIN, 2, 0);
        x.number(2, LEAST);
        is("put(0, 0, 2)", x.put(0, 0, 2), 1);
        is("put(0, 14, 1)", x.put(0, 14, 1), 1);
        is("field 0", x.field(0, 0, 1), LEAST);
        is("field 14", x.field(0, 14, 2), 2);
        is("field 1", x.field(0, 1, 0), 0);
        is("the object behind it", x.at(16), 2);
        is("NIL", x.put(0, 0, 3), 1);
        is("field 0 then", x.field(0, 0, 0), 0);
        is("its content", x.field(0, 0, 1), 0);
        is("itself", x.put(0, 0, 0), 1);
        is("field 0 then", x.field(0, 0, 2), 1);
    }

    static void promise10NoSuchField() {
        says("NONE if there is no such field");
        for (int fields : new int[] {0, 1, 15}) {
            RegionPool x = withRegions(1);
            x.make(0, 0, PLAIN, 1, fields);
            x.make(1, 0, PLAIN, 2, 3);
            x.number(2, 9);
            for (int i : new int[] {-1, fields, 15, 16, LEAST, MOST}) {
                is("field " + i + " of " + fields, x.put(0, i, 2), NONE);
            }
            is("the object behind it", x.root(1, 3), 2);
        }
        changesNothing("put(0, 3, 6)", Checks::busy, x -> x.put(0, 3, 6));
        changesNothing("put(0, -1, 6)", Checks::busy, x -> x.put(0, -1, 6));
    }

    static void promise10Refused() {
        says("The value refers to an object in a newer region.");
        RegionPool x = withRegions(8);
        for (int r = 0; r < 8; r++) {
            x.make(r, r, r % 3, r, 2);
        }
        for (int to = 0; to < 8; to++) {
            for (int from = 0; from < 8; from++) {
                is("put(" + to + ", 0, " + from + ")", x.put(to, 0, from), from > to ? REFUSED : 1);
            }
        }
        for (int r = 0; r < 8; r++) {
            is("the latest that was not refused", x.field(r, 0, 2), r);
        }
        changesNothing("put(0, 1, 1)", Checks::busy, y -> y.put(0, 1, 1));
    }

    static void promise10NoneAheadOfRefused() {
        says("NONE if there is no such field, REFUSED.");
        RegionPool x = withRegions(2);
        x.make(0, 0, PLAIN, 1, 1);
        x.make(1, 1, PLAIN, 2, 0);
        is("no such field, and a newer one", x.put(0, 1, 1), NONE);
        is("such a field, and a newer one", x.put(0, 0, 1), REFUSED);
    }

    static void promise10NoMoreRefusedBehindALift() {
        says("An object refers to objects of its own region and of those that are not newer, alone.");
        RegionPool x = withRegions(3);
        x.make(0, 0, PLAIN, 1, 1);
        x.make(1, 2, PLAIN, 2, 0);
        x.lift(1, 1);
        is("lifted, but still newer", x.put(0, 0, 1), REFUSED);
        x.copy(2, 1, 0);
        is("its copy is not", x.put(0, 0, 2), 1);
        x.lift(1, 0);
        is("nor is it, lifted", x.put(0, 0, 1), 1);
    }

    static void promise10NoSuchRoot() {
        says("IndexOutOfBoundsException: no such root.");
        RegionPool x = withRegions(1);
        x.make(0, 0, PLAIN, 1, 1);
        for (int no : NO_ROOTS) {
            noRoot("put(" + no + ", 0, 0)", () -> x.put(no, 0, 0));
            noRoot("put(0, 0, " + no + ")", () -> x.put(0, 0, no));
            noRoot("from, and no such field", () -> x.put(0, 9, no));
            noRoot("from, and root is no reference", () -> x.put(1, 0, no));
            changesNothing("put(0, 1, " + no + ")", Checks::busy, y -> y.put(0, 1, no));
        }
    }

    static void promise10RootIsNoReference() {
        says("IllegalStateException: root is no reference.");
        RegionPool x = withRegions(1);
        x.make(0, 0, PLAIN, 1, 1);
        x.number(1, 0);
        noReference("a number", () -> x.put(1, 0, 0));
        noReference("NIL", () -> x.put(2, 0, 0));
        noReference("NIL, and no such field", () -> x.put(2, -1, 0));
        is("from may be none", x.put(0, 0, 2), 1);
        changesNothing("put(6, 0, 0)", Checks::busy, y -> y.put(6, 0, 0));
    }

    // ---- 13: watch

    static void promise13WatchedFromNowOn() {
        says("The object to which root refers is watched from now on, behind those that are: true");
        RegionPool x = withRegions(1);
        for (int k = 0; k < 3; k++) {
            x.make(k, 0, PLAIN, k, 0);
        }
        is("before", x.root(1, 6), 0);
        is("watch(2)", x.watch(2), true);
        is("watch(0)", x.watch(0), true);
        is("watch(1)", x.watch(1), true);
        is("then", x.root(1, 6), 1);
        is("count(8)", x.count(8), 3);
        clearRoots(x, 0, 2);
        x.collect(0);
        for (int tag : new int[] {2, 0, 1}) {
            x.due(5);
            is("in the order in which that was said", x.root(5, 3), tag);
        }
    }

    static void promise13FalseIfItIsAlready() {
        says("false if it is already");
        RegionPool x = withRegions(1);
        x.make(0, 0, PLAIN, 1, 0);
        x.make(1, 0, PLAIN, 2, 0);
        x.watch(0);
        x.watch(1);
        x.move(15, 0);
        is("by the same root", x.watch(0), false);
        is("by another root", x.watch(15), false);
        is("count(8)", x.count(8), 2);
        clearRoots(x, 0, 15);
        x.collect(0);
        x.due(0);
        is("its turn is as before", x.root(0, 3), 1);
        changesNothing("watch(5)", Checks::busy, y -> y.watch(5));
    }

    static void promise13OnceMoreBehindTheQueue() {
        says("All watched young objects that are not live are no longer watched");
        RegionPool x = withRegions(1);
        x.make(0, 0, PLAIN, 1, 1);
        x.make(1, 0, PLAIN, 2, 0);
        x.put(0, 0, 1);
        x.watch(0);
        x.watch(1);
        clearRoots(x, 0, 1);
        x.collect(0);
        x.due(0);
        x.get(1, 0, 0);
        is("one that is in the queue", x.watch(1), true);
        is("one that has left it", x.watch(0), true);
        is("once more", x.watch(1), false);
    }

    static void promise13AsManyAsCanBeMade() {
        says("WATCHED objects are so in the order in which that was said of them.");
        RegionPool x = withRegions(1);
        for (int k = 0; k < 250; k++) {
            x.make(0, 0, PLAIN, k, 0);
            x.watch(0);
        }
        is("count(8)", x.count(8), 250);
        x.clear(0);
        is("collect(0)", x.collect(0), 0);
        is("count(9)", x.count(9), 250);
        is("due(0)", x.due(0), 250);
        is("the first one", x.root(0, 3), 0);
        is("due(0)", x.due(0), 249);
        is("the second one", x.root(0, 3), 1);
    }

    static void promise13NoSuchRoot() {
        says("IndexOutOfBoundsException: no such root.");
        RegionPool x = new RegionPool();
        for (int no : NO_ROOTS) {
            noRoot("watch(" + no + ")", () -> x.watch(no));
            changesNothing("watch(" + no + ")", Checks::busy, y -> y.watch(no));
        }
    }

    static void promise13NoReference() {
        says("IllegalStateException: it is no reference.");
        RegionPool x = withRegions(1);
        x.make(0, 0, PLAIN, 1, 0);
        x.number(1, 0);
        noReference("a number like the object's place", () -> x.watch(1));
        noReference("NIL", () -> x.watch(2));
        is("count(8)", x.count(8), 0);
        changesNothing("watch(6)", Checks::busy, y -> y.watch(6));
        changesNothing("watch(9)", Checks::busy, y -> y.watch(9));
    }

    // ---- 14: due

    static void promise14HowManyThereWere() {
        says("The first one of the queue goes to a root: how many there were.");
        RegionPool x = queueOfThree();
        for (int k = 0; k < 3; k++) {
            int root = k == 0 ? 15 : 0;
            is("due", x.due(root), 3 - k);
            is("the first one", x.root(root, 3), k);
            is("count(9)", x.count(9), 2 - k);
        }
        is("what was in the queue is not watched", x.root(15, 6), 0);
    }

    private static RegionPool queueOfThree() {
        RegionPool x = withRegions(1);
        for (int k = 0; k < 3; k++) {
            x.make(0, 0, PLAIN, k, 0);
            x.watch(0);
        }
        x.clear(0);
        x.collect(0);
        return x;
    }

    static void promise14WithoutOneTheRootStays() {
        says("0, and the root stays, without one.");
        RegionPool x = withRegions(1);
        is("due(0)", x.due(0), 0);
        is("NIL", x.root(0, 0), 0);
        x.number(0, 5);
        is("due(0)", x.due(0), 0);
        is("a number", x.root(0, 1), 5);
        x.make(0, 0, PLAIN, 6, 0);
        x.watch(0);
        is("due(0): a watched one is not in the queue", x.due(0), 0);
        is("a reference", x.root(0, 3), 6);
        RegionPool y = queueOfThree();
        for (int k = 0; k < 3; k++) {
            y.due(0);
        }
        is("behind the last one", y.due(0), 0);
        is("the last one stays", y.root(0, 3), 2);
        is("once more", y.due(1), 0);
        is("NIL", y.root(1, 0), 0);
    }

    static void promise14WithoutOneNothingChanges() {
        says("0, and the root stays, without one.");
        Made made = () -> {
            RegionPool x = busy();
            x.due(10);
            return x;
        };
        for (int root : new int[] {0, 6, 9, 15}) {
            changesNothing("due(" + root + ")", made, x -> x.due(root));
        }
    }

    static void promise14TheQueueHoldsItNoMore() {
        says("The first one of the queue goes to a root");
        RegionPool x = queueOfThree();
        x.due(0);
        is("the root holds it", x.collect(0), 0);
        x.due(0);
        is("nothing holds it", x.collect(0), 1);
        is("the root holds the second one", x.root(0, 3), 1);
    }

    static void promise14NoSuchRoot() {
        says("IndexOutOfBoundsException: no such root.");
        RegionPool x = queueOfThree();
        for (int no : NO_ROOTS) {
            noRoot("due(" + no + ")", () -> x.due(no));
            noRoot("with an empty queue", () -> new RegionPool().due(no));
            changesNothing("due(" + no + ")", Checks::busy, y -> y.due(no));
        }
        is("the queue", x.count(9), 3);
    }
}
