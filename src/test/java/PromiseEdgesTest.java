/** A test of its own for each boundary that a promise of the document names, beside its words. */
public final class PromiseEdgesTest extends Checks {
    private static final int[] FAR_OFF = {Integer.MAX_VALUE, Integer.MIN_VALUE};
    private static final int[] NO_REGISTERS = besides(4);

    // Promise 1

    private static int registersOf(TwoGenerations x) {
        int many = 0;
        while (many < 20 && x.kind(many) != NONE) {
            many++;
        }
        return many;
    }

    /** The most that a heap without a reached object takes before a first collection. */
    private static int youngOf(TwoGenerations x) {
        int most = 0;
        for (int k = 0; k < 100 && x.collections(0) == 0; k++) {
            most = x.cells(0);
            x.make(0, 0);
            x.clear(0);
        }
        return most;
    }

    /** The most of the old cells that a chain in register 0 and one object beside it take. */
    private static int oldOf(TwoGenerations x) {
        for (int k = 0; k < 100 && thrownBy(x::small) == null; k++) {
            prolongChain(x);
        }
        // The chain grows by two cells, so there may be room for one more.
        x.load(0, 0, 0);
        x.make(1, 0);
        thrownBy(x::small);
        return x.cells(1);
    }

    private static void registersWithinTheirEnds() {
        for (int n = 1; n <= 8; n++) {
            due("registers of " + n, registersOf(new TwoGenerations(n, 16, 40)), n);
        }
    }

    private static void registersBeyondTheirEnds() {
        for (int n : new int[] {0, -1, 9, 10, Integer.MAX_VALUE, Integer.MIN_VALUE}) {
            due("registers of " + n, registersOf(new TwoGenerations(n, 16, 40)), 4);
        }
    }

    private static void allRegistersAreNull() {
        for (int n = 1; n <= 8; n++) {
            TwoGenerations x = new TwoGenerations(n, 16, 40);
            for (int r = 0; r < n; r++) {
                due("kind of register " + r, x.kind(r), NULL);
            }
        }
    }

    private static void youngWithinItsEnds() {
        for (int young = 4; young <= 60; young++) {
            due("YOUNG of " + young, youngOf(new TwoGenerations(1, young, 40)), young);
        }
    }

    private static void youngBeyondItsEnds() {
        for (int young : new int[] {3, 2, 1, 0, -1, -16, 61, 62, 120, Integer.MAX_VALUE,
            Integer.MIN_VALUE}) {
            due("YOUNG of " + young, youngOf(new TwoGenerations(1, young, 40)), 16);
        }
    }

    private static void oldWithinItsEnds() {
        for (int old = 4; old <= 120; old++) {
            due("OLD of " + old, oldOf(new TwoGenerations(2, 4, old)), old);
        }
    }

    private static void oldBeyondItsEnds() {
        for (int old : new int[] {3, 2, 1, 0, -1, -40, 121, 122, Integer.MAX_VALUE,
            Integer.MIN_VALUE}) {
            due("OLD of " + old, oldOf(new TwoGenerations(2, 4, old)), 40);
        }
    }

    private static void eachOfTheThreeAlone() {
        due("registers", registersOf(new TwoGenerations(7, 0, 0)), 7);
        due("YOUNG", youngOf(new TwoGenerations(0, 9, 0)), 9);
        due("OLD", oldOf(new TwoGenerations(0, 0, 23)), 23);
        TwoGenerations x = new TwoGenerations(0, 0, 0);
        due("registers", registersOf(x), 4);
        due("YOUNG", youngOf(x), 16);
        due("OLD", oldOf(new TwoGenerations(0, 0, 0)), 40);
    }

    private static void noObjects() {
        TwoGenerations x = new TwoGenerations(4, 16, 40);
        dueCells(x, 0, 0);
        dueCollections(x, 0, 0);
        due("great()", x.great(), 0);
        due("small()", x.small(), 0);
    }

    private static void twoHeapsAreTwo() {
        TwoGenerations x = new TwoGenerations(4, 16, 40);
        TwoGenerations y = new TwoGenerations(4, 16, 40);
        x.make(0, 3);
        x.great();
        x.small();
        due("kind", y.kind(0), NULL);
        dueCells(y, 0, 0);
        dueCollections(y, 0, 0);
    }

    // Promise 2

    private static void makeWithEachNumberOfFields() {
        TwoGenerations x = new TwoGenerations(1, 60, 40);
        for (int n = 0; n <= 11; n++) {
            x.make(0, n);
            due("kind with fields " + n, x.kind(0), OBJECT);
            due("fields of " + n, x.fields(0), n);
        }
    }

    private static void makeWithTooFewOrTooMany() {
        TwoGenerations x = new TwoGenerations(1, 60, 40);
        for (int n : new int[] {-1, -2, 12, 13, 59, 60}) {
            refused("make with fields " + n, () -> x.make(0, n));
        }
        for (int n : FAR_OFF) {
            refused("make with fields " + n, () -> x.make(0, n));
        }
        due("kind", x.kind(0), NULL);
        dueCells(x, 0, 0);
    }

    private static void makeNotAboveYoung() {
        for (int young = 4; young <= 11; young++) {
            TwoGenerations x = new TwoGenerations(1, young, 40);
            int most = young - 1;
            refused("make with fields " + young + " of YOUNG " + young, () -> x.make(0, most + 1));
            dueCells(x, 0, 0);
            x.make(0, most);
            due("fields", x.fields(0), most);
            dueCells(x, young, 0);
        }
        TwoGenerations x = new TwoGenerations(1, 12, 40);
        x.make(0, 11);
        dueCells(x, 12, 0);
    }

    private static void newFieldsAreNullAgain() {
        TwoGenerations x = new TwoGenerations(2, 12, 12);
        for (int round = 0; round < 5; round++) {
            x.make(0, 10);
            for (int i = 0; i < 10; i++) {
                x.number(1, 1);
                x.load(1, 0, i);
                due("kind of field " + i, x.kind(1), NULL);
                x.store(0, i, 0);
            }
            x.clear(0);
            x.small();
        }
    }

    // Promise 3

    private static void weakOfNoObject() {
        TwoGenerations x = new TwoGenerations(4, 16, 40);
        refused("weak of null", () -> x.weak(0, 1));
        x.number(1, 0);
        refused("weak of an int", () -> x.weak(0, 1));
        due("kind", x.kind(0), NULL);
        dueCells(x, 0, 0);
    }

    private static void weakOfEachObject() {
        TwoGenerations x = new TwoGenerations(4, 16, 40);
        x.make(0, 0);
        x.weak(1, 0);
        x.target(3, 1);
        due("target without fields", x.same(3, 0), true);
        x.weak(2, 1);
        x.target(3, 2);
        due("a weak cell as target", x.same(3, 1), true);
        x.small();
        x.weak(1, 0);
        x.target(3, 1);
        due("an old target", x.same(3, 0), true);
    }

    private static void weakOfATargetThatGoesLater() {
        TwoGenerations x = new TwoGenerations(2, 8, 8);
        x.make(0, 0);
        x.weak(1, 0);
        x.clear(0);
        x.target(0, 1);
        due("an unreached target before a collection", x.fields(0), 0);
        x.small();
        x.target(1, 1);
        due("the target that was taken again", x.same(0, 1), true);
    }

    // Promises 4, 5 and 6

    private static void loadOfNoSuchField() {
        TwoGenerations x = withEachKind();
        x.make(3, 0);
        for (int i : new int[] {-1, 0, 1, Integer.MAX_VALUE, Integer.MIN_VALUE}) {
            refused("load of field " + i + " of none", () -> x.load(1, 3, i));
            refused("load of field " + i + " of an int", () -> x.load(0, 1, i));
            refused("load of field " + i + " of a weak cell", () -> x.load(1, 2, i));
        }
        for (int i : new int[] {-1, 2, 3, Integer.MAX_VALUE, Integer.MIN_VALUE}) {
            refused("load of field " + i + " of two", () -> x.load(1, 0, i));
        }
        x.clear(3);
        refused("load of null", () -> x.load(1, 3, 0));
        due("value", x.value(1), 6);
    }

    private static void loadOfEachValue() {
        TwoGenerations x = withEachKind();
        for (int r = 0; r < 3; r++) {
            x.store(0, 1, r);
            x.load(3, 0, 1);
            due("loaded from register " + r, x.same(3, r), true);
        }
        x.load(3, 0, 0);
        due("kind of an empty field", x.kind(3), NULL);
    }

    private static void storeIntoNoSuchField() {
        TwoGenerations x = withEachKind();
        x.make(3, 0);
        for (int i : new int[] {-1, 0, 1, Integer.MAX_VALUE, Integer.MIN_VALUE}) {
            refused("store into field " + i + " of none", () -> x.store(3, i, 1));
            refused("store into field " + i + " of an int", () -> x.store(1, i, 1));
            refused("store into field " + i + " of a weak cell", () -> x.store(2, i, 1));
        }
        for (int i : new int[] {-1, 2, 3, Integer.MAX_VALUE, Integer.MIN_VALUE}) {
            refused("store into field " + i + " of two", () -> x.store(0, i, 1));
        }
        x.clear(3);
        refused("store into null", () -> x.store(3, 0, 1));
        due("reach", x.reach(0), 3);
    }

    private static void storeIntoOneFieldAlone() {
        TwoGenerations x = new TwoGenerations(2, 60, 40);
        x.make(0, 11);
        for (int i = 0; i < 11; i++) {
            x.number(1, i);
            x.store(0, i, 1);
        }
        for (int i = 0; i < 11; i++) {
            x.load(1, 0, i);
            due("field " + i, x.value(1), i);
        }
    }

    private static void storeOfNullEmptiesAField() {
        TwoGenerations x = new TwoGenerations(3, 16, 40);
        x.make(0, 1);
        x.make(1, 0);
        x.store(0, 0, 1);
        x.store(0, 0, 2);
        due("reach", x.reach(0), 2);
        x.clear(1);
        due("small()", x.small(), 2);
    }

    private static void targetOfNoWeakCell() {
        TwoGenerations x = withEachKind();
        for (int r : new int[] {0, 1, 3}) {
            refused("target of register " + r, () -> x.target(1, r));
        }
        due("value", x.value(1), 6);
    }

    private static void targetOfACellThatHasNone() {
        TwoGenerations x = withEachKind();
        x.clear(0);
        x.great();
        x.target(1, 2);
        due("kind", x.kind(1), NULL);
        x.target(2, 2);
        due("kind over itself", x.kind(2), NULL);
    }

    // Promises 7, 8 and 9

    private static void numberAtItsEnds() {
        TwoGenerations x = new TwoGenerations(1, 16, 40);
        for (int v : new int[] {LOWEST_INT, LOWEST_INT + 1, -1, 0, 1, HIGHEST_INT - 1,
            HIGHEST_INT}) {
            x.number(0, v);
            due("kind", x.kind(0), INT);
            due("value", x.value(0), v);
        }
    }

    private static void numberBeyondItsEnds() {
        TwoGenerations x = new TwoGenerations(1, 16, 40);
        x.number(0, 5);
        for (int v : new int[] {LOWEST_INT - 1, HIGHEST_INT + 1, Integer.MAX_VALUE,
            Integer.MIN_VALUE}) {
            refused("number " + v, () -> x.number(0, v));
            due("value", x.value(0), 5);
        }
    }

    private static void clearOfWhatIsNull() {
        TwoGenerations x = new TwoGenerations(1, 16, 40);
        x.clear(0);
        due("kind", x.kind(0), NULL);
        x.make(0, 0);
        x.clear(0);
        x.clear(0);
        due("kind", x.kind(0), NULL);
        dueCells(x, 1, 0);
    }

    private static void moveOfItself() {
        TwoGenerations x = withEachKind();
        for (int r = 0; r < 4; r++) {
            int kind = x.kind(r);
            x.move(r, r);
            due("kind of register " + r, x.kind(r), kind);
        }
        due("value", x.value(1), 6);
    }

    private static void moveOfAnotherOneLeavesThat() {
        TwoGenerations x = withEachKind();
        for (int r = 0; r < 3; r++) {
            int kind = x.kind(r);
            x.move(3, r);
            due("kind of register " + r, x.kind(r), kind);
            due("kind of register 3", x.kind(3), kind);
        }
        dueCells(x, 2, 3);
    }

    // Promises 10 to 15

    private static void kindOfEach() {
        TwoGenerations x = withEachKind();
        due("an object", x.kind(0), 2);
        due("an int", x.kind(1), 1);
        due("a weak cell", x.kind(2), 3);
        due("null", x.kind(3), 0);
        x.make(3, 0);
        due("an object without fields", x.kind(3), 2);
        x.number(3, 0);
        due("the int 0", x.kind(3), 1);
        x.clear(0);
        x.great();
        due("a weak cell without a target", x.kind(2), 3);
    }

    private static void kindOfNoRegister() {
        for (int r : NO_REGISTERS) {
            due("kind of register " + r, withEachKind().kind(r), NONE);
        }
    }

    private static void valueOfNone() {
        TwoGenerations x = withEachKind();
        for (int r : new int[] {0, 2, 3}) {
            due("value of register " + r, x.value(r), 0);
        }
        for (int r : NO_REGISTERS) {
            due("value of register " + r, x.value(r), 0);
        }
        x.number(1, NONE);
        due("value of -1", x.value(1), -1);
    }

    private static void fieldsOfNone() {
        TwoGenerations x = withEachKind();
        for (int r : new int[] {1, 2, 3}) {
            due("fields of register " + r, x.fields(r), NONE);
        }
        for (int r : NO_REGISTERS) {
            due("fields of register " + r, x.fields(r), NONE);
        }
        x.make(3, 0);
        due("fields of an object without them", x.fields(3), 0);
    }

    private static void sameOfNulls() {
        TwoGenerations x = new TwoGenerations(4, 16, 40);
        due("null both", x.same(0, 3), true);
        due("null and itself", x.same(2, 2), true);
        x.number(0, 0);
        due("the int 0 and null", x.same(0, 3), false);
        due("null and the int 0", x.same(3, 0), false);
        x.make(0, 0);
        due("an object and null", x.same(0, 3), false);
        due("null and an object", x.same(3, 0), false);
    }

    private static void sameOfInts() {
        int[] ints = {LOWEST_INT, -129, -128, -1, 0, 1, 127, 128, 1000, HIGHEST_INT};
        TwoGenerations x = new TwoGenerations(2, 16, 40);
        for (int v : ints) {
            for (int w : ints) {
                x.number(0, v);
                x.number(1, w);
                due("same of " + v + " and " + w, x.same(0, 1), v == w);
            }
        }
    }

    private static void sameOfObjects() {
        TwoGenerations x = new TwoGenerations(4, 16, 40);
        x.make(0, 1);
        x.make(1, 1);
        due("two objects alike", x.same(0, 1), false);
        x.weak(2, 0);
        x.weak(3, 0);
        due("two weak cells alike", x.same(2, 3), false);
        due("a weak cell and its target", x.same(2, 0), false);
        x.target(1, 3);
        due("the same object", x.same(0, 1), true);
        x.small();
        due("the same object, old", x.same(0, 1), true);
        x.number(1, 2);
        due("an object and an int", x.same(0, 1), false);
        due("an int and an object", x.same(1, 0), false);
    }

    private static void sameOfNoRegister() {
        TwoGenerations x = withEachKind();
        for (int r : NO_REGISTERS) {
            due("same of " + r + " twice", x.same(r, r), false);
            for (int s = 0; s < 4; s++) {
                due("same of " + r + " and " + s, x.same(r, s), false);
                due("same of " + s + " and " + r, x.same(s, r), false);
            }
        }
        due("same of two that are none", x.same(-1, 4), false);
    }

    private static void generationOfNone() {
        TwoGenerations x = withEachKind();
        due("an old object", x.generation(0), 1);
        due("an int", x.generation(1), NONE);
        due("a young weak cell", x.generation(2), 0);
        due("null", x.generation(3), NONE);
        for (int r : NO_REGISTERS) {
            due("generation of register " + r, x.generation(r), NONE);
        }
    }

    private static void generationStaysOld() {
        TwoGenerations x = new TwoGenerations(1, 4, 8);
        x.make(0, 0);
        x.great();
        due("after great()", x.generation(0), 0);
        x.small();
        x.small();
        x.great();
        due("after all", x.generation(0), 1);
    }

    private static void reachOfItsOwn() {
        TwoGenerations x = new TwoGenerations(2, 60, 40);
        x.make(0, 0);
        due("an object without fields", x.reach(0), 1);
        x.make(0, 11);
        due("an object with all fields", x.reach(0), 12);
        x.weak(0, 0);
        due("a weak cell", x.reach(0), 2);
    }

    private static void reachOfNone() {
        TwoGenerations x = withEachKind();
        due("an int", x.reach(1), 0);
        due("null", x.reach(3), 0);
        for (int r : NO_REGISTERS) {
            due("reach of register " + r, x.reach(r), 0);
        }
    }

    private static void reachOfAllThatBothHold() {
        TwoGenerations x = new TwoGenerations(2, 60, 120);
        for (int k = 0; k < 90; k++) {
            prolongChain(x);
        }
        dueCells(x, 60, 120);
        due("reach", x.reach(0), 180);
        due("reach again", x.reach(0), 180);
    }

    private static void reachOfManyWithFewOldCells() {
        TwoGenerations x = new TwoGenerations(3, 60, 4);
        x.make(0, 11);
        for (int i = 0; i < 4; i++) {
            x.make(1, 11);
            x.store(0, i, 1);
        }
        due("reach of five large ones", x.reach(0), 60);
        TwoGenerations y = new TwoGenerations(3, 60, 4);
        y.make(0, 11);
        y.make(1, 11);
        y.store(0, 0, 1);
        for (int i = 0; i < 21; i++) {
            y.make(2, 0);
            y.store(i < 10 ? 0 : 1, i < 10 ? i + 1 : i - 10, 2);
        }
        due("reach of many small ones", y.reach(0), 45);
    }

    // Promises 16 to 19

    private static void smallOfAllThatYoungHolds() {
        TwoGenerations x = new TwoGenerations(2, 60, 120);
        for (int k = 0; k < 30; k++) {
            prolongChain(x);
        }
        due("small()", x.small(), 60);
        due("small() again", x.small(), 0);
        dueCells(x, 0, 60);
    }

    private static void smallOfSomeBetweenOthers() {
        TwoGenerations x = new TwoGenerations(3, 60, 120);
        for (int k = 0; k < 6; k++) {
            x.make(k % 3, k);
        }
        due("small()", x.small(), 4 + 5 + 6);
        dueCells(x, 0, 15);
    }

    private static void greatCountsOldCellsAlone() {
        TwoGenerations x = new TwoGenerations(2, 16, 40);
        x.make(0, 4);
        x.small();
        x.make(0, 6);
        x.clear(0);
        due("great()", x.great(), 5);
        dueCells(x, 7, 0);
        due("great() again", x.great(), 0);
    }

    private static void greatOfSomeBetweenOthers() {
        TwoGenerations x = new TwoGenerations(3, 60, 120);
        for (int k = 0; k < 3; k++) {
            x.make(k, k + 3);
        }
        x.small();
        x.clear(1);
        due("great() of the middle one", x.great(), 5);
        x.clear(0);
        due("great() of the first one", x.great(), 4);
        dueCells(x, 0, 6);
        x.clear(2);
        due("great() of the last one", x.great(), 6);
    }

    private static void cellsOfOthers() {
        TwoGenerations x = withEachKind();
        dueCells(x, 2, 3);
        for (int g : new int[] {-1, -2, 2, 3, Integer.MAX_VALUE, Integer.MIN_VALUE}) {
            due("cells(" + g + ")", x.cells(g), NONE);
        }
    }

    private static void collectionsOfOthers() {
        TwoGenerations x = withEachKind();
        dueCollections(x, 1, 0);
        for (int w : new int[] {-1, -2, 2, 3, Integer.MAX_VALUE, Integer.MIN_VALUE}) {
            due("collections(" + w + ")", x.collections(w), NONE);
        }
    }

    private static void failedOnesAreNotCounted() {
        TwoGenerations x = withFullOld();
        x.make(1, 4);
        fails("small()", x::small);
        dueCollections(x, 1, 1);
        fails("make", () -> x.make(2, 4));
        dueCollections(x, 1, 2);
        fails("weak", () -> x.weak(2, 1));
        dueCollections(x, 1, 3);
    }

    private static void thoseThatMakingBringsAreCounted() {
        TwoGenerations x = new TwoGenerations(1, 4, 4);
        for (int k = 0; k < 10; k++) {
            x.make(0, 3);
            dueCollections(x, k, k < 2 ? 0 : k - 1);
        }
    }

    public static void main(String[] args) {
        runEach("promise 1", new Words[] {
            new Words("1 .. 8", PromiseEdgesTest::registersWithinTheirEnds),
            new Words("else 4", PromiseEdgesTest::registersBeyondTheirEnds),
            new Words("all null", PromiseEdgesTest::allRegistersAreNull),
            new Words("4 .. 60", PromiseEdgesTest::youngWithinItsEnds),
            new Words("else 16", PromiseEdgesTest::youngBeyondItsEnds),
            new Words("4 .. 120", PromiseEdgesTest::oldWithinItsEnds),
            new Words("else 40", PromiseEdgesTest::oldBeyondItsEnds),
            new Words("else", PromiseEdgesTest::eachOfTheThreeAlone),
            new Words("No objects", PromiseEdgesTest::noObjects),
            new Words("A new object", PromiseEdgesTest::twoHeapsAreTwo),
        });
        runEach("promise 2", new Words[] {
            new Words("n is 0 .. 11", PromiseEdgesTest::makeWithEachNumberOfFields),
            new Words("n is 0 .. 11", PromiseEdgesTest::makeWithTooFewOrTooMany),
            new Words("n + 1 not above YOUNG", PromiseEdgesTest::makeNotAboveYoung),
            new Words("all null", PromiseEdgesTest::newFieldsAreNullAgain),
        });
        runEach("promise 3", new Words[] {
            new Words("which holds one", PromiseEdgesTest::weakOfNoObject),
            new Words("its target is the object in the register from",
                    PromiseEdgesTest::weakOfEachObject),
            new Words("its target is the object", PromiseEdgesTest::weakOfATargetThatGoesLater),
        });
        runEach("promise 4", new Words[] {
            new Words("That has such a field", PromiseEdgesTest::loadOfNoSuchField),
            new Words("gets the value of field i", PromiseEdgesTest::loadOfEachValue),
        });
        runEach("promise 5", new Words[] {
            new Words("There is such a field", PromiseEdgesTest::storeIntoNoSuchField),
            new Words("Field i of the object", PromiseEdgesTest::storeIntoOneFieldAlone),
            new Words("gets the value of the register from",
                    PromiseEdgesTest::storeOfNullEmptiesAField),
        });
        runEach("promise 6", new Words[] {
            new Words("That holds one", PromiseEdgesTest::targetOfNoWeakCell),
            new Words("A register gets the target", PromiseEdgesTest::targetOfACellThatHasNone),
        });
        runEach("promise 7", new Words[] {
            new Words("v is -2^30 .. 2^30 - 1", PromiseEdgesTest::numberAtItsEnds),
            new Words("v is -2^30 .. 2^30 - 1", PromiseEdgesTest::numberBeyondItsEnds),
        });
        runEach("promise 8", new Words[] {
            new Words("A register gets null", PromiseEdgesTest::clearOfWhatIsNull),
        });
        runEach("promise 9", new Words[] {
            new Words("or of itself", PromiseEdgesTest::moveOfItself),
            new Words("the value of another one", PromiseEdgesTest::moveOfAnotherOneLeavesThat),
        });
        runEach("promise 10", new Words[] {
            new Words("an object with fields or none", PromiseEdgesTest::kindOfEach),
            new Words("NONE when there is no such register", PromiseEdgesTest::kindOfNoRegister),
        });
        runEach("promise 11", new Words[] {
            new Words("0 when it holds none, or there is no such register",
                    PromiseEdgesTest::valueOfNone),
        });
        runEach("promise 12", new Words[] {
            new Words("NONE when it holds none, or a weak cell, or there is no such register",
                    PromiseEdgesTest::fieldsOfNone),
        });
        runEach("promise 13", new Words[] {
            new Words("null both", PromiseEdgesTest::sameOfNulls),
            new Words("the same int", PromiseEdgesTest::sameOfInts),
            new Words("the same object", PromiseEdgesTest::sameOfObjects),
            new Words("false when there is no such register", PromiseEdgesTest::sameOfNoRegister),
        });
        runEach("promise 14", new Words[] {
            new Words("NONE when it holds none, or there is no such register",
                    PromiseEdgesTest::generationOfNone),
            new Words("1 when it is old", PromiseEdgesTest::generationStaysOld),
        });
        runEach("promise 15", new Words[] {
            new Words("its own among them", PromiseEdgesTest::reachOfItsOwn),
            new Words("0 when it holds none, or there is no such register",
                    PromiseEdgesTest::reachOfNone),
            new Words("How many cells the objects take that are reached",
                    PromiseEdgesTest::reachOfAllThatBothHold),
            new Words("How many cells the objects take that are reached",
                    PromiseEdgesTest::reachOfManyWithFewOldCells),
        });
        runEach("promise 16", new Words[] {
            new Words("how many cells became old", PromiseEdgesTest::smallOfAllThatYoungHolds),
            new Words("how many cells became old", PromiseEdgesTest::smallOfSomeBetweenOthers),
        });
        runEach("promise 17", new Words[] {
            new Words("how many cells are free by it", PromiseEdgesTest::greatCountsOldCellsAlone),
            new Words("how many cells are free by it", PromiseEdgesTest::greatOfSomeBetweenOthers),
        });
        runEach("promise 18", new Words[] {
            new Words("NONE for others", PromiseEdgesTest::cellsOfOthers),
        });
        runEach("promise 19", new Words[] {
            new Words("NONE for others", PromiseEdgesTest::collectionsOfOthers),
            new Words("that did not fail", PromiseEdgesTest::failedOnesAreNotCounted),
            new Words("small collections there were",
                    PromiseEdgesTest::thoseThatMakingBringsAreCounted),
        });
        end("all edges of the promises hold");
    }
}
