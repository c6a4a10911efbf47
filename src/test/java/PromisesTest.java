/** Each promise of the document by hand: ordinary inputs, the edges it names, wrong inputs. */
public final class PromisesTest extends Checks {
    private static final int[] NO_REGISTERS = besides(4);

    // Promise 1

    private static int registersOf(int registers) {
        TwoGenerations x = new TwoGenerations(registers, 16, 40);
        int many = 0;
        while (many < 20 && x.kind(many) == NULL) {
            many++;
        }
        return many;
    }

    private static int youngOf(int young) {
        TwoGenerations x = new TwoGenerations(1, young, 40);
        int most = 0;
        for (int k = 0; k < 100 && x.collections(0) == 0; k++) {
            most = Math.max(most, x.cells(0));
            x.make(0, 0);
        }
        return most;
    }

    private static int oldOf(int old) {
        TwoGenerations x = new TwoGenerations(2, 4, old);
        for (int k = 0; k < 100; k++) {
            prolongChain(x);
            if (thrownBy(x::small) != null) {
                break;
            }
        }
        return x.cells(1);
    }

    private static void newObject() {
        int[][] registers = {{1, 1}, {2, 2}, {7, 7}, {8, 8}, {0, 4}, {9, 4}, {-1, 4},
            {Integer.MIN_VALUE, 4}, {Integer.MAX_VALUE, 4}};
        for (int[] row : registers) {
            due("registers of " + row[0], registersOf(row[0]), row[1]);
        }
        int[][] young = {{4, 4}, {5, 5}, {59, 59}, {60, 60}, {3, 16}, {61, 16}, {0, 16}, {-4, 16},
            {Integer.MAX_VALUE, 16}, {Integer.MIN_VALUE, 16}};
        for (int[] row : young) {
            due("YOUNG of " + row[0], youngOf(row[0]), row[1]);
        }
        int[][] old = {{4, 4}, {6, 6}, {118, 118}, {120, 120}, {3, 40}, {121, 40}, {0, 40}, {-4, 40},
            {Integer.MAX_VALUE, 40}, {Integer.MIN_VALUE, 40}};
        for (int[] row : old) {
            due("OLD of " + row[0], oldOf(row[0]), row[1]);
        }
        TwoGenerations x = new TwoGenerations(4, 16, 40);
        dueCells(x, 0, 0);
        dueCollections(x, 0, 0);
    }

    // Promise 2

    private static void make() {
        TwoGenerations x = new TwoGenerations(4, 16, 40);
        x.make(0, 3);
        due("kind", x.kind(0), OBJECT);
        due("fields", x.fields(0), 3);
        due("generation", x.generation(0), 0);
        for (int i = 0; i < 3; i++) {
            x.number(1, 5);
            x.load(1, 0, i);
            due("kind of a new field", x.kind(1), NULL);
        }
        dueCells(x, 4, 0);
        x.make(3, 0);
        due("fields", x.fields(3), 0);
        dueCells(x, 5, 0);
        x.make(1, 10);
        dueCells(x, 16, 0);
        dueCollections(x, 0, 0);
        for (int r : NO_REGISTERS) {
            refused("make into register " + r, () -> x.make(r, 1));
        }
        for (int n : new int[] {-1, 12, 13, Integer.MAX_VALUE, Integer.MIN_VALUE}) {
            refused("make with fields " + n, () -> x.make(0, n));
        }
        // A refused call changes nothing, so it does not collect though the young cells are full.
        dueCells(x, 16, 0);
        dueCollections(x, 0, 0);
        due("fields", x.fields(0), 3);
    }

    private static void makeWithFewYoung() {
        for (int young = 4; young <= 13; young++) {
            TwoGenerations x = new TwoGenerations(1, young, 40);
            int most = Math.min(11, young - 1);
            refused("make with too many fields", () -> x.make(0, most + 1));
            due("kind", x.kind(0), NULL);
            x.make(0, most);
            due("fields", x.fields(0), most);
        }
    }

    private static void makeCollects() {
        TwoGenerations x = new TwoGenerations(2, 4, 8);
        x.make(0, 2);
        x.make(1, 0);
        x.clear(1);
        dueCollections(x, 0, 0);
        x.make(1, 1);
        dueCells(x, 2, 3);
        dueCollections(x, 1, 0);
        // What register 1 held until then still counts, because the new object comes there last.
        x.make(1, 3);
        due("generation", x.generation(1), 0);
        due("fields", x.fields(1), 3);
        dueCells(x, 4, 5);
        dueCollections(x, 2, 0);
        x.clear(1);
        x.make(1, 0);
        dueCells(x, 1, 3);
        dueCollections(x, 3, 1);
    }

    private static void makeFails() {
        TwoGenerations x = withFullOld();
        x.make(1, 4);
        x.number(3, 1);
        fails("make", () -> x.make(3, 1));
        due("kind", x.kind(3), INT);
        dueCells(x, 5, 6);
        dueCollections(x, 1, 1);
        x.make(3, 0);
        dueCells(x, 6, 6);
        dueCollections(x, 1, 1);
        x.clear(0);
        x.make(3, 1);
        // The chain went, the two young objects became old, and the new one is young.
        dueCells(x, 2, 6);
        dueCollections(x, 2, 2);
    }

    // Promise 3

    private static void weak() {
        TwoGenerations x = new TwoGenerations(4, 16, 40);
        x.make(0, 2);
        x.weak(1, 0);
        due("kind", x.kind(1), WEAK);
        due("generation", x.generation(1), 0);
        dueCells(x, 5, 0);
        x.weak(1, 1);
        dueCells(x, 7, 0);
        x.target(2, 1);
        due("kind of a weak cell's weak cell's target", x.kind(2), WEAK);
        x.target(2, 2);
        due("the target of the target", x.same(2, 0), true);
        x.number(3, 4);
        refused("weak of an int", () -> x.weak(2, 3));
        x.clear(3);
        refused("weak of null", () -> x.weak(2, 3));
        for (int r : NO_REGISTERS) {
            refused("weak into register " + r, () -> x.weak(r, 0));
            refused("weak of register " + r, () -> x.weak(2, r));
        }
        due("kind", x.kind(2), OBJECT);
        dueCells(x, 7, 0);
        dueCollections(x, 0, 0);
    }

    private static void weakCollects() {
        TwoGenerations x = new TwoGenerations(2, 4, 8);
        x.make(0, 2);
        refused("weak of null", () -> x.weak(0, 1));
        dueCollections(x, 0, 0);
        x.weak(0, 0);
        dueCells(x, 2, 3);
        dueCollections(x, 1, 0);
        due("generation", x.generation(0), 0);
        x.target(1, 0);
        due("generation of the target", x.generation(1), 1);
        x.weak(0, 1);
        dueCells(x, 4, 3);
        dueCollections(x, 1, 0);
    }

    private static void weakFails() {
        TwoGenerations x = withFullOld();
        x.make(1, 4);
        x.number(2, 8);
        fails("weak", () -> x.weak(2, 0));
        due("value", x.value(2), 8);
        dueCells(x, 5, 6);
        dueCollections(x, 1, 1);
    }

    // Promises 4 and 5

    private static TwoGenerations withValues() {
        TwoGenerations x = new TwoGenerations(4, 40, 40);
        x.make(0, 4);
        x.number(1, -3);
        x.store(0, 0, 1);
        x.store(0, 1, 0);
        x.weak(1, 0);
        x.store(0, 2, 1);
        return x;
    }

    private static void load() {
        TwoGenerations x = withValues();
        x.load(2, 0, 0);
        due("value", x.value(2), -3);
        x.load(2, 0, 1);
        due("itself", x.same(2, 0), true);
        x.load(2, 0, 2);
        due("the weak cell", x.same(2, 1), true);
        x.load(2, 0, 3);
        due("kind", x.kind(2), NULL);
        x.number(2, 6);
        for (int i : new int[] {-1, 4, 5, Integer.MAX_VALUE, Integer.MIN_VALUE}) {
            refused("load of field " + i, () -> x.load(2, 0, i));
        }
        for (int r : NO_REGISTERS) {
            refused("load into register " + r, () -> x.load(r, 0, 0));
            refused("load of register " + r, () -> x.load(2, r, 0));
        }
        refused("load of a weak cell", () -> x.load(2, 1, 0));
        refused("load of an int", () -> x.load(2, 2, 0));
        refused("load of null", () -> x.load(2, 3, 0));
        due("value", x.value(2), 6);
        x.make(3, 0);
        refused("load of an object without fields", () -> x.load(2, 3, 0));
        x.load(0, 0, 0);
        due("value over its own object", x.value(0), -3);
    }

    private static void store() {
        TwoGenerations x = withValues();
        x.number(2, 11);
        for (int i : new int[] {-1, 4, 5, Integer.MAX_VALUE, Integer.MIN_VALUE}) {
            refused("store into field " + i, () -> x.store(0, i, 2));
        }
        for (int r : NO_REGISTERS) {
            refused("store of register " + r, () -> x.store(0, 0, r));
            refused("store into register " + r, () -> x.store(r, 0, 2));
        }
        refused("store into a weak cell", () -> x.store(1, 0, 2));
        refused("store into an int", () -> x.store(2, 0, 2));
        refused("store into null", () -> x.store(3, 0, 2));
        x.load(3, 0, 0);
        due("value before", x.value(3), -3);
        x.store(0, 0, 2);
        x.load(3, 0, 0);
        due("value after", x.value(3), 11);
        x.load(3, 0, 1);
        due("the next field", x.same(3, 0), true);
        x.store(0, 3, 2);
        x.number(2, 12);
        x.load(3, 0, 3);
        due("a field keeps its own value", x.value(3), 11);
        x.clear(2);
        x.store(0, 3, 2);
        x.load(3, 0, 3);
        due("kind", x.kind(3), NULL);
        // Two registers hold one object: what is stored through one is seen through the other.
        x.move(1, 0);
        x.number(2, 13);
        x.store(1, 3, 2);
        x.load(3, 0, 3);
        due("value through the other register", x.value(3), 13);
    }

    // Promise 6

    private static void target() {
        TwoGenerations x = withValues();
        x.target(2, 1);
        due("the target", x.same(2, 0), true);
        refused("target of an object", () -> x.target(2, 0));
        x.number(3, 2);
        refused("target of an int", () -> x.target(2, 3));
        x.clear(3);
        refused("target of null", () -> x.target(2, 3));
        for (int r : NO_REGISTERS) {
            refused("target into register " + r, () -> x.target(r, 1));
            refused("target of register " + r, () -> x.target(2, r));
        }
        due("kept", x.same(2, 0), true);
        x.clear(0);
        x.clear(2);
        x.target(1, 1);
        due("fields over its own weak cell", x.fields(1), 4);
        TwoGenerations y = new TwoGenerations(2, 8, 8);
        y.make(0, 0);
        y.weak(0, 0);
        y.great();
        y.number(1, 5);
        y.target(1, 0);
        due("kind of a target that is gone", y.kind(1), NULL);
    }

    // Promises 7, 8 and 9

    private static void number() {
        TwoGenerations x = new TwoGenerations(4, 16, 40);
        for (int v : new int[] {0, 1, -1, 77, HIGHEST_INT, LOWEST_INT}) {
            x.number(3, v);
            due("kind", x.kind(3), INT);
            due("value", x.value(3), v);
        }
        for (int v : new int[] {HIGHEST_INT + 1, LOWEST_INT - 1, Integer.MAX_VALUE, Integer.MIN_VALUE}) {
            refused("number " + v, () -> x.number(3, v));
        }
        for (int r : NO_REGISTERS) {
            refused("number into register " + r, () -> x.number(r, 1));
        }
        due("value", x.value(3), LOWEST_INT);
        dueCells(x, 0, 0);
    }

    private static void clear() {
        TwoGenerations x = new TwoGenerations(4, 16, 40);
        x.make(0, 1);
        x.weak(1, 0);
        x.number(2, 3);
        for (int r : NO_REGISTERS) {
            refused("clear of register " + r, () -> x.clear(r));
        }
        due("kind", x.kind(0), OBJECT);
        for (int r = 0; r < 4; r++) {
            x.clear(r);
            due("kind", x.kind(r), NULL);
        }
        // Nothing goes before a collection.
        dueCells(x, 4, 0);
    }

    private static void move() {
        TwoGenerations x = new TwoGenerations(4, 16, 40);
        x.make(0, 1);
        x.number(1, 3);
        x.weak(2, 0);
        for (int r = 0; r < 3; r++) {
            x.move(3, r);
            due("moved", x.same(3, r), true);
            due("kind", x.kind(3), new int[] {OBJECT, INT, WEAK}[r]);
        }
        x.move(0, 0);
        due("kind of a move to itself", x.kind(0), OBJECT);
        for (int r : NO_REGISTERS) {
            refused("move into register " + r, () -> x.move(r, 0));
            refused("move of register " + r, () -> x.move(0, r));
        }
        due("kind", x.kind(0), OBJECT);
        x.clear(3);
        x.move(1, 3);
        due("kind of a moved null", x.kind(1), NULL);
        dueCells(x, 4, 0);
    }

    // Promises 10 to 14

    private static void kind() {
        TwoGenerations x = withEachKind();
        due("kind", x.kind(0), OBJECT);
        due("kind", x.kind(1), INT);
        due("kind", x.kind(2), WEAK);
        due("kind", x.kind(3), NULL);
        x.make(3, 0);
        due("kind without fields", x.kind(3), OBJECT);
        x.number(1, 0);
        due("kind of 0", x.kind(1), INT);
        for (int r : NO_REGISTERS) {
            due("kind of register " + r, x.kind(r), NONE);
        }
    }

    private static void value() {
        TwoGenerations x = withEachKind();
        due("value", x.value(0), 0);
        due("value", x.value(1), 6);
        due("value", x.value(2), 0);
        due("value", x.value(3), 0);
        for (int r : NO_REGISTERS) {
            due("value of register " + r, x.value(r), 0);
        }
    }

    private static void fields() {
        TwoGenerations x = withEachKind();
        due("fields", x.fields(0), 2);
        due("fields", x.fields(1), NONE);
        due("fields", x.fields(2), NONE);
        due("fields", x.fields(3), NONE);
        x.make(3, 0);
        due("no fields", x.fields(3), 0);
        x.make(3, 11);
        due("most fields", x.fields(3), 11);
        for (int r : NO_REGISTERS) {
            due("fields of register " + r, x.fields(r), NONE);
        }
    }

    private static void same() {
        TwoGenerations x = withEachKind();
        for (int a = 0; a < 4; a++) {
            for (int b = 0; b < 4; b++) {
                due("same(" + a + ", " + b + ")", x.same(a, b), a == b);
            }
            for (int r : NO_REGISTERS) {
                due("same(" + a + ", " + r + ")", x.same(a, r), false);
                due("same(" + r + ", " + a + ")", x.same(r, a), false);
                due("same(" + r + ", " + r + ")", x.same(r, r), false);
            }
        }
        for (int v : new int[] {6, 0, HIGHEST_INT, LOWEST_INT}) {
            x.number(1, v);
            x.number(3, v);
            due("equal ints", x.same(1, 3), true);
            x.number(3, v == 6 ? 7 : 6);
            due("other ints", x.same(1, 3), false);
        }
        x.number(1, 0);
        x.clear(3);
        due("0 and null", x.same(1, 3), false);
        x.clear(1);
        due("null both", x.same(1, 3), true);
        x.make(1, 2);
        due("two objects alike", x.same(0, 1), false);
        x.weak(3, 0);
        due("two weak cells alike", x.same(2, 3), false);
        due("a weak cell and its target", x.same(3, 0), false);
        x.target(3, 2);
        due("the same object", x.same(3, 0), true);
    }

    private static void generation() {
        TwoGenerations x = withEachKind();
        due("generation", x.generation(0), 1);
        due("generation", x.generation(1), NONE);
        due("generation", x.generation(2), 0);
        due("generation", x.generation(3), NONE);
        for (int r : NO_REGISTERS) {
            due("generation of register " + r, x.generation(r), NONE);
        }
        x.great();
        due("generation after a great collection", x.generation(2), 0);
        x.small();
        due("generation of an old weak cell", x.generation(2), 1);
        due("generation", x.generation(0), 1);
        x.make(3, 0);
        due("generation", x.generation(3), 0);
    }

    // Promise 15

    private static void reach() {
        TwoGenerations x = new TwoGenerations(4, 40, 40);
        x.make(0, 3);
        due("reach alone", x.reach(0), 4);
        x.store(0, 0, 0);
        due("reach of itself", x.reach(0), 4);
        x.make(1, 1);
        x.store(0, 1, 1);
        x.store(0, 2, 1);
        due("reach twice of one", x.reach(0), 6);
        due("reach of the inner one", x.reach(1), 2);
        x.store(1, 0, 0);
        due("reach in a ring", x.reach(1), 6);
        x.small();
        due("reach of old ones", x.reach(1), 6);
        x.make(2, 2);
        x.store(2, 0, 1);
        due("reach of old from young", x.reach(2), 9);
        due("reach is not backwards", x.reach(1), 6);
        x.weak(3, 2);
        due("reach of a weak cell", x.reach(3), 2);
        x.store(1, 0, 3);
        due("reach of young from old", x.reach(1), 4);
        due("reach over a weak cell ends there", x.reach(0), 8);
        x.number(3, 5);
        due("reach of an int", x.reach(3), 0);
        x.clear(3);
        due("reach of null", x.reach(3), 0);
        for (int r : NO_REGISTERS) {
            due("reach of register " + r, x.reach(r), 0);
        }
        dueCells(x, 5, 6);
        dueCollections(x, 1, 0);
    }

    private static void reachOverEachField() {
        TwoGenerations x = new TwoGenerations(2, 60, 40);
        x.make(0, 11);
        for (int i = 0; i < 11; i++) {
            x.make(1, 1);
            x.store(0, i, 1);
            due("reach over field " + i, x.reach(0), 12 + 2 * (i + 1));
        }
        dueCells(x, 34, 0);
    }

    private static void reachFar() {
        TwoGenerations x = new TwoGenerations(2, 60, 120);
        for (int k = 1; k <= 90; k++) {
            prolongChain(x);
            due("reach of a chain", x.reach(0), 2 * k);
        }
        dueCells(x, 60, 120);
    }

    // Promise 16

    private static void small() {
        TwoGenerations x = new TwoGenerations(4, 16, 40);
        due("small() of nothing", x.small(), 0);
        x.make(0, 2);
        x.make(1, 1);
        x.store(0, 1, 1);
        x.clear(1);
        x.make(1, 3);
        x.weak(2, 1);
        x.clear(1);
        due("small()", x.small(), 7);
        dueCells(x, 0, 7);
        dueCollections(x, 2, 0);
        due("generation", x.generation(0), 1);
        x.load(3, 0, 1);
        due("generation over a field", x.generation(3), 1);
        x.target(3, 2);
        due("kind of a target that is gone", x.kind(3), NULL);
        due("small() again", x.small(), 0);
        dueCells(x, 0, 7);
    }

    private static void smallKeepsWhatUnreachedOldOnesReach() {
        TwoGenerations x = new TwoGenerations(4, 16, 40);
        x.make(0, 1);
        x.weak(1, 0);
        x.small();
        x.make(2, 2);
        x.store(0, 0, 2);
        x.make(3, 0);
        x.store(2, 0, 3);
        x.clear(0);
        x.clear(2);
        x.clear(3);
        due("small()", x.small(), 4);
        dueCells(x, 0, 8);
        // The weak cell still tells of the old object that nothing reached.
        x.target(0, 1);
        x.load(2, 0, 0);
        due("generation", x.generation(2), 1);
        due("reach", x.reach(0), 6);
        x.clear(0);
        x.clear(2);
        due("great()", x.great(), 6);
        dueCells(x, 0, 2);
    }

    private static void smallKeepsTargetsThatBecomeOld() {
        TwoGenerations x = new TwoGenerations(4, 16, 40);
        x.make(0, 0);
        x.weak(1, 0);
        x.small();
        x.target(2, 1);
        due("the target", x.same(2, 0), true);
        x.make(3, 1);
        x.weak(2, 3);
        x.store(3, 0, 2);
        x.weak(1, 2);
        x.clear(2);
        due("small()", x.small(), 6);
        x.target(2, 1);
        x.target(2, 2);
        due("over two weak cells", x.same(2, 3), true);
    }

    private static void smallComesAfterGreatOnlyWhenTight() {
        // The old objects leave just as many cells as the young ones take: no great one.
        TwoGenerations x = new TwoGenerations(4, 8, 8);
        x.make(0, 3);
        x.small();
        x.make(1, 3);
        x.clear(0);
        due("small()", x.small(), 4);
        dueCollections(x, 2, 0);
        dueCells(x, 0, 8);
        // One cell less: a great one, and it is counted.
        x.make(2, 0);
        due("small()", x.small(), 1);
        dueCollections(x, 3, 1);
        dueCells(x, 0, 5);
        // Young ones that nothing reaches count for the question, too, and are no survivors.
        x.clear(2);
        x.make(3, 3);
        x.clear(3);
        due("small()", x.small(), 0);
        dueCollections(x, 4, 2);
        dueCells(x, 0, 4);
    }

    private static void smallFails() {
        TwoGenerations x = withFullOld();
        x.make(1, 0);
        x.weak(2, 1);
        fails("small()", x::small);
        dueCells(x, 3, 6);
        dueCollections(x, 1, 1);
        due("generation", x.generation(1), 0);
        // One of the chain's three goes in the great one, and that stays done though it fails.
        x.make(3, 2);
        x.load(0, 0, 0);
        fails("small()", x::small);
        dueCells(x, 6, 4);
        dueCollections(x, 1, 2);
        due("reach", x.reach(0), 4);
        due("great()", x.great(), 0);
    }

    private static void smallFillsOldExactly() {
        TwoGenerations x = new TwoGenerations(4, 6, 8);
        x.make(0, 1);
        x.small();
        x.make(1, 4);
        x.make(2, 0);
        due("small()", x.small(), 6);
        dueCells(x, 0, 8);
        dueCollections(x, 2, 0);
        due("small() with both full", x.small(), 0);
        dueCollections(x, 3, 0);
    }

    private static void failedSmallKeepsUnreachedYoung() {
        TwoGenerations x = withFullOld();
        x.make(1, 1);
        x.weak(2, 1);
        x.make(3, 0);
        x.clear(3);
        fails("small()", x::small);
        dueCells(x, 5, 6);
        x.target(3, 2);
        due("the target stays", x.same(3, 1), true);
    }

    // Promise 17

    private static void great() {
        TwoGenerations x = new TwoGenerations(4, 16, 40);
        due("great() of nothing", x.great(), 0);
        x.make(0, 3);
        x.make(1, 1);
        x.weak(2, 1);
        x.small();
        due("great() with all reached", x.great(), 0);
        dueCells(x, 0, 8);
        x.clear(1);
        x.target(3, 2);
        due("fields of a target before", x.fields(3), 1);
        x.clear(3);
        due("great()", x.great(), 2);
        dueCells(x, 0, 6);
        x.target(3, 2);
        due("kind of a target after", x.kind(3), NULL);
        dueCollections(x, 1, 3);
        x.clear(0);
        x.clear(2);
        due("great()", x.great(), 6);
        dueCells(x, 0, 0);
    }

    private static void greatClearsRings() {
        TwoGenerations x = new TwoGenerations(4, 16, 40);
        x.make(0, 1);
        x.make(1, 1);
        x.store(0, 0, 1);
        x.store(1, 0, 0);
        x.small();
        x.clear(0);
        due("great() with a ring reached", x.great(), 0);
        x.clear(1);
        due("great() with a ring not reached", x.great(), 4);
    }

    private static void greatGoesOverYoungOnes() {
        TwoGenerations x = new TwoGenerations(4, 16, 40);
        x.make(0, 1);
        x.small();
        x.make(1, 1);
        x.store(1, 0, 0);
        x.clear(0);
        due("old reached over a young one", x.great(), 0);
        dueCells(x, 2, 2);
        // The young one stays, unreached, but does not keep the old one.
        x.clear(1);
        due("old held by an unreached young one", x.great(), 2);
        dueCells(x, 2, 0);
        due("small()", x.small(), 0);
        dueCells(x, 0, 0);
    }

    private static void greatCutsTargets() {
        TwoGenerations x = new TwoGenerations(4, 16, 40);
        x.make(0, 0);
        x.weak(1, 0);
        x.small();
        x.make(2, 0);
        x.weak(3, 2);
        due("great() with all reached", x.great(), 0);
        x.clear(0);
        x.clear(2);
        due("great()", x.great(), 1);
        x.target(0, 1);
        due("an old target", x.kind(0), NULL);
        x.target(0, 3);
        due("a young target", x.kind(0), NULL);
        dueCells(x, 3, 2);
        dueCollections(x, 1, 2);
    }

    // Promises 18 and 19

    private static void cells() {
        TwoGenerations x = withEachKind();
        dueCells(x, 2, 3);
        for (int g : new int[] {-1, 2, 3, Integer.MAX_VALUE, Integer.MIN_VALUE}) {
            due("cells(" + g + ")", x.cells(g), NONE);
        }
    }

    private static void collections() {
        TwoGenerations x = withEachKind();
        x.great();
        x.great();
        dueCollections(x, 1, 2);
        for (int w : new int[] {-1, 2, 3, Integer.MAX_VALUE, Integer.MIN_VALUE}) {
            due("collections(" + w + ")", x.collections(w), NONE);
        }
        TwoGenerations y = withFullOld();
        dueCollections(y, 1, 0);
        y.make(1, 0);
        fails("small()", y::small);
        dueCollections(y, 1, 1);
    }

    public static void main(String[] args) {
        Call[][] calls = {
            {PromisesTest::newObject},
            {PromisesTest::make, PromisesTest::makeWithFewYoung, PromisesTest::makeCollects,
                PromisesTest::makeFails},
            {PromisesTest::weak, PromisesTest::weakCollects, PromisesTest::weakFails},
            {PromisesTest::load},
            {PromisesTest::store},
            {PromisesTest::target},
            {PromisesTest::number},
            {PromisesTest::clear},
            {PromisesTest::move},
            {PromisesTest::kind},
            {PromisesTest::value},
            {PromisesTest::fields},
            {PromisesTest::same},
            {PromisesTest::generation},
            {PromisesTest::reach, PromisesTest::reachOverEachField,
                PromisesTest::reachFar},
            {PromisesTest::small, PromisesTest::smallKeepsWhatUnreachedOldOnesReach,
                PromisesTest::smallKeepsTargetsThatBecomeOld,
                PromisesTest::smallComesAfterGreatOnlyWhenTight, PromisesTest::smallFails,
                PromisesTest::smallFillsOldExactly, PromisesTest::failedSmallKeepsUnreachedYoung},
            {PromisesTest::great, PromisesTest::greatClearsRings,
                PromisesTest::greatGoesOverYoungOnes, PromisesTest::greatCutsTargets},
            {PromisesTest::cells},
            {PromisesTest::collections},
        };
        for (int k = 0; k < calls.length; k++) {
            at("promise " + (k + 1));
            for (Call call : calls[k]) {
                dueThrow("the whole test", call, null);
            }
        }
        end("all " + calls.length + " promises hold");
    }
}
