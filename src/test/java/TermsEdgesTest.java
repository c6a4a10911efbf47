/** A test of its own for each boundary that the document names under Terms, beside its words. */
public final class TermsEdgesTest extends Checks {

    // Values and objects

    private static void intsAtTheirEndsStayWhole() {
        for (int v : new int[] {LOWEST_INT, LOWEST_INT + 1, -1, 0, HIGHEST_INT - 1, HIGHEST_INT}) {
            TwoGenerations x = new TwoGenerations(3, 8, 16);
            x.make(0, 1);
            x.number(1, v);
            x.store(0, 0, 1);
            x.clear(1);
            x.small();
            x.great();
            x.load(2, 0, 0);
            x.move(1, 2);
            due("kind", x.kind(1), INT);
            due("value", x.value(1), v);
        }
    }

    private static void fieldsEndBelowN() {
        for (int n = 0; n <= 11; n++) {
            TwoGenerations x = new TwoGenerations(2, 60, 120);
            x.make(0, n);
            for (int i = 0; i < n; i++) {
                x.store(0, i, 0);
                x.load(1, 0, i);
                due("field " + i + " of " + n, x.same(0, 1), true);
            }
            for (int i : new int[] {-1, n, n + 1, 12, Integer.MAX_VALUE, Integer.MIN_VALUE}) {
                refused("load of field " + i + " of " + n, () -> x.load(1, 0, i));
                refused("store into field " + i + " of " + n, () -> x.store(0, i, 1));
            }
        }
    }

    private static void anObjectTakesOneCellMoreThanFields() {
        for (int n = 0; n <= 11; n++) {
            TwoGenerations x = new TwoGenerations(2, 60, 120);
            x.make(0, n);
            dueCells(x, n + 1, 0);
            x.small();
            dueCells(x, 0, n + 1);
            x.clear(0);
            due("great()", x.great(), n + 1);
        }
    }

    private static void aWeakCellHasNoFields() {
        TwoGenerations x = new TwoGenerations(3, 8, 8);
        x.make(0, 3);
        x.weak(1, 0);
        due("fields", x.fields(1), NONE);
        refused("load", () -> x.load(2, 1, 0));
        refused("store", () -> x.store(1, 0, 2));
    }

    private static void aWeakCellTakesTwoCells() {
        TwoGenerations x = new TwoGenerations(2, 8, 8);
        x.make(0, 3);
        x.weak(1, 0);
        dueCells(x, 6, 0);
        x.clear(0);
        due("small()", x.small(), 2);
        dueCells(x, 0, 2);
    }

    private static void aTargetIsAnyObjectOrNull() {
        TwoGenerations x = new TwoGenerations(3, 16, 16);
        x.make(0, 0);
        x.weak(1, 0);
        x.weak(2, 1);
        x.target(2, 2);
        due("a weak cell as target", x.same(2, 1), true);
        x.target(2, 2);
        due("an object without fields as target", x.same(2, 0), true);
        x.clear(0);
        x.clear(2);
        x.small();
        x.number(2, 1);
        x.target(2, 1);
        due("no target", x.kind(2), NULL);
    }

    private static void everyObjectIsYoungAtFirst() {
        TwoGenerations x = new TwoGenerations(3, 4, 16);
        x.make(0, 0);
        due("first object", x.generation(0), 0);
        x.small();
        due("after small()", x.generation(0), 1);
        x.weak(1, 0);
        due("weak cell of an old object", x.generation(1), 0);
        x.make(2, 3);
        due("object made with a collection", x.generation(2), 0);
        x.weak(2, 0);
        due("weak cell made with a collection", x.generation(2), 0);
    }

    private static void youngFillsToItsLastCell() {
        for (int young = 4; young <= 60; young++) {
            TwoGenerations x = new TwoGenerations(1, young, 40);
            for (int k = 1; k <= young; k++) {
                x.make(0, 0);
                due("cells(0) of " + young, x.cells(0), k);
            }
            dueCollections(x, 0, 0);
            x.make(0, 0);
            dueCells(x, 1, 1);
        }
    }

    /** Register 0 a chain, register 2 one object more if OLD is odd; the old cells are full. */
    private static TwoGenerations filledOld(int old) {
        TwoGenerations x = new TwoGenerations(4, 4, old);
        for (int k = 0; k < old / 2; k++) {
            prolongChain(x);
            x.small();
        }
        if (old % 2 == 1) {
            x.make(2, 0);
            x.small();
        }
        return x;
    }

    private static void oldFillsToItsLastCell() {
        for (int old = 4; old <= 120; old++) {
            TwoGenerations x = filledOld(old);
            dueCells(x, 0, old);
            due("collections(1)", x.collections(1), 0);
            x.make(1, 0);
            fails("small() with OLD " + old, x::small);
            dueCells(x, 1, old);
        }
    }

    private static void goneOnesTakeNone() {
        TwoGenerations x = new TwoGenerations(1, 4, 4);
        for (int k = 0; k < 40; k++) {
            x.make(0, 3);
            dueCells(x, 4, k == 0 ? 0 : 4);
        }
        x.clear(0);
        due("small()", x.small(), 0);
        dueCells(x, 0, 0);
    }

    // Reached

    private static void reachedOverFieldsFromObjectToObject() {
        TwoGenerations x = new TwoGenerations(2, 60, 120);
        for (int k = 1; k <= 30; k++) {
            prolongChain(x);
            due("reach", x.reach(0), 2 * k);
        }
        x.clear(1);
        due("small()", x.small(), 60);
    }

    private static void reachedThroughEachField() {
        for (int i = 0; i < 11; i++) {
            TwoGenerations x = new TwoGenerations(2, 60, 120);
            x.make(0, 11);
            x.make(1, 0);
            x.store(0, i, 1);
            x.clear(1);
            due("reach over field " + i, x.reach(0), 13);
            due("small() over field " + i, x.small(), 13);
            due("great() over field " + i, x.great(), 0);
        }
    }

    private static void reachedInRingsCountsOnce() {
        TwoGenerations x = new TwoGenerations(3, 16, 16);
        x.make(0, 1);
        x.store(0, 0, 0);
        due("reach of itself", x.reach(0), 2);
        x.make(1, 2);
        x.store(0, 0, 1);
        x.store(1, 0, 0);
        x.store(1, 1, 0);
        due("reach in a ring", x.reach(0), 5);
        x.clear(1);
        due("small()", x.small(), 5);
        due("great()", x.great(), 0);
    }

    private static void reachedFromEachRegister() {
        for (int registers = 1; registers <= 8; registers++) {
            for (int r = 0; r < registers; r++) {
                TwoGenerations x = new TwoGenerations(registers, 16, 40);
                x.make(r, 2);
                due("small() with register " + r + " of " + registers, x.small(), 3);
                due("great() with register " + r + " of " + registers, x.great(), 0);
                dueCells(x, 0, 3);
            }
        }
    }

    private static void targetsAreNoWay() {
        TwoGenerations x = new TwoGenerations(3, 16, 16);
        x.make(0, 4);
        x.weak(1, 0);
        x.make(2, 1);
        x.store(2, 0, 1);
        due("reach of a weak cell", x.reach(1), 2);
        due("reach over a weak cell", x.reach(2), 4);
        x.clear(0);
        x.clear(1);
        due("small()", x.small(), 4);
    }

    // A great collection

    private static void greatOfNothing() {
        TwoGenerations x = new TwoGenerations(4, 16, 40);
        due("great()", x.great(), 0);
        due("great()", x.great(), 0);
        dueCells(x, 0, 0);
        dueCollections(x, 0, 2);
    }

    private static void greatOfAllThatOldHolds() {
        TwoGenerations x = filledOld(120);
        due("great() with all reached", x.great(), 0);
        x.clear(0);
        x.clear(1);
        due("great() with nothing reached", x.great(), 120);
        dueCells(x, 0, 0);
    }

    private static void greatKeepsWhatAReachedYoungOneReaches() {
        TwoGenerations x = new TwoGenerations(2, 16, 40);
        x.make(0, 0);
        x.small();
        x.make(1, 1);
        x.store(1, 0, 0);
        x.clear(0);
        due("great()", x.great(), 0);
        x.load(0, 1, 0);
        due("generation", x.generation(0), 1);
    }

    private static void greatTakesWhatAnUnreachedYoungOneReaches() {
        TwoGenerations x = new TwoGenerations(2, 16, 40);
        x.make(0, 0);
        x.small();
        x.make(1, 1);
        x.store(1, 0, 0);
        x.clear(0);
        x.clear(1);
        due("great()", x.great(), 1);
        dueCells(x, 2, 0);
    }

    private static void greatTakesUnreachedRings() {
        TwoGenerations x = new TwoGenerations(2, 16, 40);
        x.make(0, 1);
        x.make(1, 1);
        x.store(0, 0, 1);
        x.store(1, 0, 0);
        x.small();
        x.clear(0);
        x.clear(1);
        due("great()", x.great(), 4);
    }

    private static void greatTakesWhatOnlyAWeakCellTellsOf() {
        TwoGenerations x = new TwoGenerations(2, 16, 40);
        x.make(0, 2);
        x.weak(1, 0);
        x.small();
        x.clear(0);
        due("great()", x.great(), 3);
        dueCells(x, 0, 2);
    }

    /** Register 0 an object and register 1 a weak cell with it as target, of these ages. */
    private static TwoGenerations withTarget(boolean oldTarget, boolean oldCell) {
        TwoGenerations x = new TwoGenerations(4, 16, 40);
        x.make(0, 0);
        if (oldTarget && !oldCell) {
            x.small();
        }
        x.weak(1, 0);
        if (oldCell) {
            x.small();
        }
        due("generation of the target", x.generation(0), oldTarget ? 1 : 0);
        due("generation of the cell", x.generation(1), oldCell ? 1 : 0);
        return x;
    }

    private static void greatCutsTarget(boolean oldTarget, boolean oldCell) {
        TwoGenerations x = withTarget(oldTarget, oldCell);
        x.great();
        x.target(2, 1);
        due("a reached target", x.same(2, 0), true);
        x.clear(0);
        x.clear(2);
        due("great()", x.great(), oldTarget ? 1 : 0);
        x.number(2, 1);
        x.target(2, 1);
        due("kind of an unreached target", x.kind(2), NULL);
        due("kind of the cell", x.kind(1), WEAK);
    }

    private static void greatCutsAnOldTargetOfAnOldCell() {
        greatCutsTarget(true, true);
    }

    private static void greatCutsAnOldTargetOfAYoungCell() {
        greatCutsTarget(true, false);
    }

    private static void greatCutsAYoungTargetOfAYoungCell() {
        greatCutsTarget(false, false);
    }

    private static void greatCutsInAFieldsWeakCell() {
        TwoGenerations x = withTarget(true, true);
        x.make(2, 1);
        x.store(2, 0, 1);
        x.clear(0);
        x.clear(1);
        due("great()", x.great(), 1);
        x.load(1, 2, 0);
        x.target(1, 1);
        due("kind of the target", x.kind(1), NULL);
    }

    private static void greatCutsATargetThatOnlyItselfReaches() {
        TwoGenerations x = new TwoGenerations(3, 16, 40);
        x.make(0, 2);
        x.weak(1, 0);
        x.store(0, 0, 1);
        x.store(0, 1, 0);
        x.small();
        x.clear(0);
        due("great()", x.great(), 3);
        x.target(2, 1);
        due("kind of the target", x.kind(2), NULL);
    }

    private static void greatCutsATargetThatOnlyATargetReaches() {
        TwoGenerations x = new TwoGenerations(3, 16, 40);
        x.make(0, 0);
        x.weak(1, 0);
        x.weak(2, 1);
        x.small();
        x.clear(1);
        due("great() with the inner cell unreached", x.great(), 2);
        x.target(1, 2);
        due("kind of the target", x.kind(1), NULL);
        due("generation of what it told of", x.generation(0), 1);
    }

    /**
     * Register 1 a young weak cell; only an old object that nothing reaches reaches its target,
     * which is young.
     */
    private static TwoGenerations withTargetOfAnUnreachedOldOne() {
        TwoGenerations x = new TwoGenerations(3, 16, 40);
        x.make(0, 1);
        x.small();
        x.make(2, 2);
        x.store(0, 0, 2);
        x.weak(1, 2);
        x.clear(0);
        x.clear(2);
        return x;
    }

    private static void greatCutsATargetThatOnlyAGoneOldOneReaches() {
        TwoGenerations x = withTargetOfAnUnreachedOldOne();
        due("great()", x.great(), 2);
        dueCells(x, 5, 0);
        x.number(0, 1);
        x.target(0, 1);
        due("kind of the target", x.kind(0), NULL);
        due("small()", x.small(), 2);
        dueCells(x, 0, 2);
    }

    private static void greatLeavesUnreachedYoung() {
        TwoGenerations x = new TwoGenerations(2, 16, 40);
        x.make(0, 3);
        x.weak(1, 0);
        x.clear(0);
        x.clear(1);
        due("great()", x.great(), 0);
        dueCells(x, 6, 0);
        due("great()", x.great(), 0);
        dueCells(x, 6, 0);
        due("small()", x.small(), 0);
        dueCells(x, 0, 0);
    }

    private static void greatMakesNothingOld() {
        TwoGenerations x = new TwoGenerations(2, 16, 40);
        x.make(0, 3);
        due("great()", x.great(), 0);
        due("generation", x.generation(0), 0);
        dueCells(x, 4, 0);
        dueCollections(x, 0, 1);
    }

    // A small collection

    private static void smallOfNothing() {
        TwoGenerations x = new TwoGenerations(4, 16, 40);
        due("small()", x.small(), 0);
        due("small()", x.small(), 0);
        dueCells(x, 0, 0);
        dueCollections(x, 2, 0);
    }

    /** Register 0 an old object of five cells, which leaves three. */
    private static TwoGenerations withThreeOldCellsLeft() {
        TwoGenerations x = new TwoGenerations(4, 8, 8);
        x.make(0, 4);
        x.small();
        return x;
    }

    private static void noGreatWhenOldLeavesAsManyAsYoungTake() {
        TwoGenerations x = withThreeOldCellsLeft();
        x.make(1, 2);
        due("small()", x.small(), 3);
        dueCollections(x, 2, 0);
        dueCells(x, 0, 8);
    }

    private static void greatFirstWhenOldLeavesOneCellLess() {
        TwoGenerations x = withThreeOldCellsLeft();
        x.clear(0);
        x.make(1, 3);
        due("small()", x.small(), 4);
        dueCollections(x, 2, 1);
        dueCells(x, 0, 4);
    }

    private static void unreachedYoungCountForTheGreatOne() {
        TwoGenerations x = withThreeOldCellsLeft();
        x.make(1, 3);
        x.clear(1);
        due("small()", x.small(), 0);
        dueCollections(x, 2, 1);
        dueCells(x, 0, 5);
    }

    private static void noGreatWithoutYoungThoughOldIsFull() {
        TwoGenerations x = withFullOld();
        x.clear(0);
        due("small()", x.small(), 0);
        dueCollections(x, 2, 0);
        dueCells(x, 0, 6);
    }

    private static void smallKeepsWhatAnUnreachedOldOneReaches() {
        TwoGenerations x = new TwoGenerations(3, 16, 40);
        x.make(0, 1);
        x.weak(2, 0);
        x.small();
        x.make(1, 1);
        x.store(0, 0, 1);
        x.clear(0);
        x.make(0, 0);
        x.store(1, 0, 0);
        x.clear(0);
        x.clear(1);
        due("small()", x.small(), 3);
        x.target(0, 2);
        due("reach of the old one", x.reach(0), 5);
        dueCollections(x, 2, 0);
    }

    private static void smallLosesWhatAGoneOldOneReached() {
        TwoGenerations x = withThreeOldCellsLeft();
        x.make(1, 3);
        x.store(0, 0, 1);
        x.clear(0);
        x.clear(1);
        due("small()", x.small(), 0);
        dueCollections(x, 2, 1);
        dueCells(x, 0, 0);
    }

    private static void smallFitsToTheLastCellAfterAGreatOne() {
        TwoGenerations x = withThreeOldCellsLeft();
        x.make(1, 1);
        x.small();
        x.clear(0);
        x.make(2, 5);
        x.make(3, 0);
        x.clear(3);
        due("small()", x.small(), 6);
        dueCells(x, 0, 8);
        dueCollections(x, 3, 1);
    }

    private static void smallFailsByOneCell() {
        TwoGenerations x = withThreeOldCellsLeft();
        x.make(1, 1);
        x.small();
        x.clear(0);
        x.make(2, 5);
        x.make(3, 0);
        fails("small()", x::small);
        dueCells(x, 7, 2);
        dueCollections(x, 2, 1);
    }

    private static void whatTheGreatOneDidStaysDone() {
        TwoGenerations x = new TwoGenerations(5, 12, 6);
        x.make(0, 0);
        x.weak(1, 0);
        x.make(2, 2);
        x.small();
        x.clear(0);
        x.make(0, 0);
        x.weak(3, 0);
        x.clear(0);
        x.make(0, 5);
        x.store(0, 0, 2);
        x.store(0, 1, 3);
        fails("small()", x::small);
        dueCells(x, 9, 5);
        dueCollections(x, 1, 1);
        x.target(4, 1);
        due("kind of an old target that went", x.kind(4), NULL);
        x.number(4, 1);
        x.target(4, 3);
        due("kind of a young target that nothing reached", x.kind(4), NULL);
        x.clear(1);
        x.clear(2);
        x.clear(3);
        due("reach", x.reach(0), 11);
        due("great()", x.great(), 2);
    }

    private static void aFailedOneLeavesTheYoung() {
        TwoGenerations x = withFullOld();
        x.make(1, 0);
        x.weak(2, 1);
        x.make(3, 1);
        x.clear(3);
        fails("small()", x::small);
        dueCells(x, 5, 6);
        due("generation of an object", x.generation(1), 0);
        due("generation of a weak cell", x.generation(2), 0);
        x.target(3, 2);
        due("the target", x.same(3, 1), true);
        dueCollections(x, 1, 1);
    }

    private static void aFailedOneCanBeMended() {
        TwoGenerations x = withFullOld();
        x.make(1, 0);
        fails("small()", x::small);
        fails("small()", x::small);
        dueCollections(x, 1, 2);
        x.load(0, 0, 0);
        due("small()", x.small(), 1);
        dueCells(x, 0, 5);
        dueCollections(x, 2, 3);
    }

    private static void theyBecomeOld() {
        TwoGenerations x = new TwoGenerations(4, 16, 40);
        x.make(0, 1);
        x.weak(1, 0);
        x.make(2, 0);
        x.store(0, 0, 2);
        x.clear(2);
        due("small()", x.small(), 5);
        dueCells(x, 0, 5);
        x.load(2, 0, 0);
        for (int r = 0; r < 3; r++) {
            due("generation", x.generation(r), 1);
        }
    }

    private static void theOtherYoungOnesAreGone() {
        TwoGenerations x = new TwoGenerations(2, 16, 40);
        x.make(0, 1);
        x.make(1, 1);
        x.store(0, 0, 1);
        x.store(1, 0, 0);
        x.weak(0, 0);
        x.clear(0);
        x.clear(1);
        due("small()", x.small(), 0);
        dueCells(x, 0, 0);
    }

    private static void smallCutsTargetsThatAreGone() {
        TwoGenerations x = withTarget(false, false);
        x.make(2, 1);
        x.weak(3, 0);
        x.store(2, 0, 3);
        x.clear(0);
        x.clear(3);
        x.small();
        dueCollections(x, 1, 0);
        x.number(3, 1);
        x.target(3, 1);
        due("kind of a register's target", x.kind(3), NULL);
        x.load(3, 2, 0);
        due("kind of the other cell", x.kind(3), WEAK);
        x.target(3, 3);
        due("kind of a field's target", x.kind(3), NULL);
    }

    private static void smallKeepsTargetsThatBecomeOld() {
        TwoGenerations x = withTarget(false, false);
        x.small();
        x.target(2, 1);
        due("the target", x.same(2, 0), true);
        due("its generation", x.generation(2), 1);
    }

    private static void smallKeepsAnUnreachedOldTarget() {
        TwoGenerations x = withTarget(true, false);
        x.clear(0);
        due("small()", x.small(), 2);
        x.target(0, 1);
        due("generation of the target", x.generation(0), 1);
        dueCells(x, 0, 3);
    }

    private static void smallKeepsATargetThatOnlyAnUnreachedOldOneReaches() {
        TwoGenerations x = withTargetOfAnUnreachedOldOne();
        due("small()", x.small(), 5);
        dueCells(x, 0, 7);
        x.target(0, 1);
        due("fields of the target", x.fields(0), 2);
        due("generation of the target", x.generation(0), 1);
    }

    // Making

    private static void makeToTheLastYoungCell() {
        TwoGenerations x = new TwoGenerations(3, 8, 16);
        x.make(0, 2);
        x.make(1, 4);
        dueCells(x, 8, 0);
        dueCollections(x, 0, 0);
    }

    private static void weakToTheLastYoungCell() {
        TwoGenerations x = new TwoGenerations(3, 8, 16);
        x.make(0, 5);
        x.weak(1, 0);
        dueCells(x, 8, 0);
        dueCollections(x, 0, 0);
    }

    private static void makeOneCellBeyondYoung() {
        TwoGenerations x = new TwoGenerations(3, 8, 16);
        x.make(0, 2);
        x.make(1, 5);
        dueCells(x, 6, 3);
        dueCollections(x, 1, 0);
        due("generation of the other", x.generation(0), 1);
        due("generation of the new one", x.generation(1), 0);
    }

    private static void weakOneCellBeyondYoung() {
        TwoGenerations x = new TwoGenerations(3, 8, 16);
        x.make(0, 6);
        x.weak(1, 0);
        dueCells(x, 2, 7);
        dueCollections(x, 1, 0);
        x.target(2, 1);
        due("the target", x.same(2, 0), true);
        due("its generation", x.generation(2), 1);
    }

    private static void makeAnObjectAsLargeAsYoung() {
        for (int young = 4; young <= 12; young++) {
            TwoGenerations x = new TwoGenerations(1, young, 40);
            x.make(0, 0);
            x.clear(0);
            x.make(0, young - 1);
            dueCells(x, young, 0);
            dueCollections(x, 1, 0);
        }
    }

    private static void makeWithAGreatOneFirst() {
        TwoGenerations x = withFullOld();
        x.clear(0);
        x.make(1, 4);
        x.make(2, 1);
        dueCells(x, 2, 5);
        dueCollections(x, 2, 1);
    }

    /** The old cells are full, one young cell is left, and registers 0 and 1 reach all. */
    private static TwoGenerations withOneYoungCellLeft() {
        TwoGenerations x = withFullOld();
        x.make(1, 4);
        x.number(2, 8);
        return x;
    }

    private static void makeIsNotMadeWhenThatFails() {
        TwoGenerations x = withOneYoungCellLeft();
        fails("make", () -> x.make(2, 1));
        due("value", x.value(2), 8);
        dueCells(x, 5, 6);
        dueCollections(x, 1, 1);
    }

    private static void weakIsNotMadeWhenThatFails() {
        TwoGenerations x = withOneYoungCellLeft();
        fails("weak", () -> x.weak(2, 0));
        due("value", x.value(2), 8);
        dueCells(x, 5, 6);
        dueCollections(x, 1, 1);
    }

    private static void whatFitsIsMadeThoughASmallOneWouldFail() {
        TwoGenerations x = withOneYoungCellLeft();
        x.make(2, 0);
        due("fields", x.fields(2), 0);
        dueCells(x, 6, 6);
        dueCollections(x, 1, 0);
    }

    private static void whatTheGreatOneDidStaysDoneWhenNotMade() {
        TwoGenerations x = withFullOld();
        x.weak(2, 0);
        x.load(0, 0, 0);
        x.make(1, 2);
        fails("make", () -> x.make(3, 1));
        dueCells(x, 5, 4);
        dueCollections(x, 1, 1);
        due("kind of the register", x.kind(3), NULL);
        x.number(3, 1);
        x.target(3, 2);
        due("kind of the target that went", x.kind(3), NULL);
    }

    // Exceptions, and what comes last

    private static void noSuchRegister() {
        for (int registers = 1; registers <= 8; registers++) {
            TwoGenerations x = new TwoGenerations(registers, 16, 40);
            x.make(0, 2);
            TwoGenerations y = new TwoGenerations(registers, 16, 40);
            y.make(0, 0);
            y.weak(0, 0);
            for (int r : besides(registers)) {
                refused("make into " + r, () -> x.make(r, 1));
                refused("weak into " + r, () -> x.weak(r, 0));
                refused("weak of " + r, () -> x.weak(0, r));
                refused("load into " + r, () -> x.load(r, 0, 0));
                refused("load of " + r, () -> x.load(0, r, 0));
                refused("store into " + r, () -> x.store(r, 0, 0));
                refused("store of " + r, () -> x.store(0, 0, r));
                refused("target into " + r, () -> y.target(r, 0));
                refused("target of " + r, () -> y.target(0, r));
                refused("number into " + r, () -> x.number(r, 1));
                refused("clear of " + r, () -> x.clear(r));
                refused("move into " + r, () -> x.move(r, 0));
                refused("move of " + r, () -> x.move(0, r));
            }
        }
    }

    private static void eachRegisterIsOne() {
        for (int registers = 1; registers <= 8; registers++) {
            TwoGenerations x = new TwoGenerations(registers, 60, 120);
            for (int r = 0; r < registers; r++) {
                x.make(r, 1);
                x.weak(r, r);
                x.target(r, r);
                x.store(r, 0, r);
                x.load(r, r, 0);
                x.move(r, r);
                due("fields of register " + r, x.fields(r), 1);
                x.clear(r);
                x.number(r, r);
            }
            for (int r = 0; r < registers; r++) {
                due("value of register " + r, x.value(r), r);
            }
        }
    }

    /**
     * Young and old cells are full of what the registers reach, so that every small collection
     * fails: 0 an old object, 1 an int, 2 a young weak cell, 3 a young object, 4 null.
     */
    private static TwoGenerations fullHeap() {
        TwoGenerations x = new TwoGenerations(5, 8, 8);
        x.make(0, 4);
        x.number(1, 6);
        x.store(0, 0, 1);
        x.store(0, 1, 0);
        x.make(2, 0);
        x.store(0, 3, 2);
        x.weak(2, 2);
        x.store(0, 2, 2);
        x.small();
        x.make(3, 5);
        x.weak(2, 3);
        x.store(3, 0, 2);
        return x;
    }

    private static String seenIn(TwoGenerations x, int r) {
        return " kind " + x.kind(r) + " value " + x.value(r) + " fields " + x.fields(r)
                + " generation " + x.generation(r) + " reach " + x.reach(r) + ";";
    }

    /** What is to be seen of the full heap, fields and targets too; clears register 4. */
    private static String told(TwoGenerations x) {
        StringBuilder told = new StringBuilder(seenIn(x, 4));
        for (int r = 0; r < 4; r++) {
            told.append("\n  ").append(r).append(':').append(seenIn(x, r));
            for (int i = 0; i < x.fields(r); i++) {
                x.load(4, r, i);
                told.append(seenIn(x, 4));
            }
            if (x.kind(r) == WEAK) {
                x.target(4, r);
                told.append(seenIn(x, 4));
            }
        }
        x.clear(4);
        for (int which = 0; which < 2; which++) {
            told.append(" cells " + x.cells(which) + " collections " + x.collections(which));
        }
        return told.toString();
    }

    private interface Change {
        void on(TwoGenerations x);
    }

    /** On a heap of its own each time, because a heap is used for no more than 512 calls. */
    private static void refusedAndUnchanged(String what, Change change) {
        TwoGenerations x = fullHeap();
        String before = told(x);
        refused(what, () -> change.on(x));
        due("the heap after " + what, told(x), before);
    }

    private static void aRefusedMakeChangesNothing() {
        for (int r : besides(5)) {
            refusedAndUnchanged("make(" + r + ", 1)", x -> x.make(r, 1));
        }
        for (int n : new int[] {-1, 8, 11, 12, Integer.MAX_VALUE, Integer.MIN_VALUE}) {
            refusedAndUnchanged("make(0, " + n + ")", x -> x.make(0, n));
        }
        fails("make(4, 7)", () -> fullHeap().make(4, 7));
    }

    private static void aRefusedWeakChangesNothing() {
        for (int r : besides(5)) {
            refusedAndUnchanged("weak(" + r + ", 0)", x -> x.weak(r, 0));
            refusedAndUnchanged("weak(0, " + r + ")", x -> x.weak(0, r));
        }
        refusedAndUnchanged("weak(0, 1)", x -> x.weak(0, 1));
        refusedAndUnchanged("weak(0, 4)", x -> x.weak(0, 4));
        fails("weak(4, 0)", () -> fullHeap().weak(4, 0));
    }

    private static void aRefusedLoadChangesNothing() {
        for (int r : besides(5)) {
            refusedAndUnchanged("load(" + r + ", 0, 0)", x -> x.load(r, 0, 0));
            refusedAndUnchanged("load(1, " + r + ", 0)", x -> x.load(1, r, 0));
        }
        for (int i : new int[] {-1, 4, 5, Integer.MAX_VALUE, Integer.MIN_VALUE}) {
            refusedAndUnchanged("load(1, 0, " + i + ")", x -> x.load(1, 0, i));
        }
        for (int r : new int[] {1, 2, 4}) {
            refusedAndUnchanged("load(0, " + r + ", 0)", x -> x.load(0, r, 0));
        }
    }

    private static void aRefusedStoreChangesNothing() {
        for (int r : besides(5)) {
            refusedAndUnchanged("store(0, 0, " + r + ")", x -> x.store(0, 0, r));
            refusedAndUnchanged("store(" + r + ", 0, 3)", x -> x.store(r, 0, 3));
        }
        for (int i : new int[] {-1, 4, 5, Integer.MAX_VALUE, Integer.MIN_VALUE}) {
            refusedAndUnchanged("store(0, " + i + ", 3)", x -> x.store(0, i, 3));
        }
        for (int r : new int[] {1, 2, 4}) {
            refusedAndUnchanged("store(" + r + ", 0, 3)", x -> x.store(r, 0, 3));
        }
    }

    private static void aRefusedTargetChangesNothing() {
        for (int r : besides(5)) {
            refusedAndUnchanged("target(" + r + ", 2)", x -> x.target(r, 2));
            refusedAndUnchanged("target(0, " + r + ")", x -> x.target(0, r));
        }
        for (int r : new int[] {0, 1, 3, 4}) {
            refusedAndUnchanged("target(1, " + r + ")", x -> x.target(1, r));
        }
    }

    private static void aRefusedNumberChangesNothing() {
        for (int r : besides(5)) {
            refusedAndUnchanged("number(" + r + ", 1)", x -> x.number(r, 1));
        }
        for (int v : new int[] {LOWEST_INT - 1, HIGHEST_INT + 1, Integer.MAX_VALUE,
            Integer.MIN_VALUE}) {
            refusedAndUnchanged("number(1, " + v + ")", x -> x.number(1, v));
        }
    }

    private static void aRefusedClearOrMoveChangesNothing() {
        for (int r : besides(5)) {
            refusedAndUnchanged("clear(" + r + ")", x -> x.clear(r));
            refusedAndUnchanged("move(" + r + ", 1)", x -> x.move(r, 1));
            refusedAndUnchanged("move(1, " + r + ")", x -> x.move(1, r));
        }
    }

    private static void askingChangesNothing() {
        TwoGenerations x = fullHeap();
        String before = told(x);
        for (int r = -1; r <= 5; r++) {
            x.kind(r);
            x.value(r);
            x.fields(r);
            x.same(r, 0);
            x.generation(r);
            x.reach(r);
            x.cells(r);
            x.collections(r);
        }
        due("the heap after all questions", told(x), before);
    }

    private static void stateIsWrongWhenASmallOneFails() {
        TwoGenerations x = fullHeap();
        fails("small()", x::small);
        fails("make", () -> x.make(4, 0));
        fails("weak", () -> x.weak(4, 3));
        dueCells(x, 8, 8);
        dueCollections(x, 1, 3);
        due("kind", x.kind(4), NULL);
    }

    private static void makeKeepsWhatItsRegisterHeld() {
        TwoGenerations x = new TwoGenerations(1, 4, 8);
        x.make(0, 3);
        x.make(0, 0);
        dueCells(x, 1, 4);
        due("fields", x.fields(0), 0);
    }

    private static void makeFailsForWhatItsRegisterHolds() {
        TwoGenerations x = new TwoGenerations(2, 4, 4);
        x.make(0, 3);
        x.small();
        x.make(1, 1);
        fails("make", () -> x.make(1, 2));
        due("fields", x.fields(1), 1);
        x.clear(1);
        x.make(1, 2);
        due("fields", x.fields(1), 2);
    }

    private static void weakKeepsTheTargetThatItsRegisterHeld() {
        TwoGenerations x = new TwoGenerations(1, 4, 8);
        x.make(0, 2);
        x.weak(0, 0);
        dueCells(x, 2, 3);
        due("generation of the cell", x.generation(0), 0);
        x.target(0, 0);
        due("fields of the target", x.fields(0), 2);
        due("generation of the target", x.generation(0), 1);
    }

    private static void loadAndTargetIntoTheirOwnRegister() {
        TwoGenerations x = new TwoGenerations(2, 16, 16);
        x.make(0, 1);
        x.make(1, 3);
        x.store(0, 0, 1);
        x.load(0, 0, 0);
        due("load(0, 0, 0)", x.same(0, 1), true);
        x.weak(0, 1);
        x.target(0, 0);
        due("target(0, 0)", x.same(0, 1), true);
    }

    private static void the512thCallIsStillRight() {
        TwoGenerations x = new TwoGenerations(1, 60, 120);
        for (int call = 1; call <= 511; call++) {
            x.make(0, 11);
        }
        // Five objects fill the young cells, so each fifth call after the first has a collection.
        due("collections(0)", x.collections(0), 102);
    }

    public static void main(String[] args) {
        runEach("what it is", new Words[] {
            new Words("An object is used for at most 512 calls",
                    TermsEdgesTest::the512thCallIsStillRight),
        });
        runEach("values and objects", new Words[] {
            new Words("an int from -2^30 to 2^30 - 1", TermsEdgesTest::intsAtTheirEndsStayWhole),
            new Words("An object has FIELDS 0 .. n - 1", TermsEdgesTest::fieldsEndBelowN),
            new Words("takes n + 1 cells", TermsEdgesTest::anObjectTakesOneCellMoreThanFields),
            new Words("which has no fields", TermsEdgesTest::aWeakCellHasNoFields),
            new Words("has a TARGET, an object, or null", TermsEdgesTest::aTargetIsAnyObjectOrNull),
            new Words("takes 2 cells", TermsEdgesTest::aWeakCellTakesTwoCells),
            new Words("Every object is YOUNG at first", TermsEdgesTest::everyObjectIsYoungAtFirst),
            new Words("The young ones take at most YOUNG cells together",
                    TermsEdgesTest::youngFillsToItsLastCell),
            new Words("the old ones at most OLD cells", TermsEdgesTest::oldFillsToItsLastCell),
            new Words("objects that are gone take none", TermsEdgesTest::goneOnesTakeNone),
        });
        runEach("reached", new Words[] {
            new Words("over fields, from object to object",
                    TermsEdgesTest::reachedOverFieldsFromObjectToObject),
            new Words("over fields", TermsEdgesTest::reachedThroughEachField),
            new Words("from object to object", TermsEdgesTest::reachedInRingsCountsOnce),
            new Words("from registers that hold it", TermsEdgesTest::reachedFromEachRegister),
            new Words("the targets of weak cells do not count", TermsEdgesTest::targetsAreNoWay),
        });
        runEach("a great collection", new Words[] {
            new Words("the old objects that are not reached", TermsEdgesTest::greatOfNothing),
            new Words("the old objects that are not reached",
                    TermsEdgesTest::greatOfAllThatOldHolds),
            new Words("not reached from the registers",
                    TermsEdgesTest::greatKeepsWhatAReachedYoungOneReaches),
            new Words("not reached from the registers",
                    TermsEdgesTest::greatTakesWhatAnUnreachedYoungOneReaches),
            new Words("not reached from the registers", TermsEdgesTest::greatTakesUnreachedRings),
            new Words("not reached from the registers",
                    TermsEdgesTest::greatTakesWhatOnlyAWeakCellTellsOf),
            new Words("each weak cell whose target, young or old",
                    TermsEdgesTest::greatCutsAnOldTargetOfAnOldCell),
            new Words("each weak cell whose target, young or old",
                    TermsEdgesTest::greatCutsAnOldTargetOfAYoungCell),
            new Words("each weak cell whose target, young or old",
                    TermsEdgesTest::greatCutsAYoungTargetOfAYoungCell),
            new Words("each weak cell", TermsEdgesTest::greatCutsInAFieldsWeakCell),
            new Words("is not reached from the registers has null instead",
                    TermsEdgesTest::greatCutsATargetThatOnlyItselfReaches),
            new Words("is not reached from the registers has null instead",
                    TermsEdgesTest::greatCutsATargetThatOnlyATargetReaches),
            new Words("is not reached from the registers has null instead",
                    TermsEdgesTest::greatCutsATargetThatOnlyAGoneOldOneReaches),
            new Words("stays until the next small collection",
                    TermsEdgesTest::greatLeavesUnreachedYoung),
            new Words("the old objects", TermsEdgesTest::greatMakesNothingOld),
        });
        runEach("a small collection", new Words[] {
            new Words("the young objects are looked at", TermsEdgesTest::smallOfNothing),
            new Words("fewer of the OLD cells than the young ones take",
                    TermsEdgesTest::noGreatWhenOldLeavesAsManyAsYoungTake),
            new Words("fewer of the OLD cells than the young ones take",
                    TermsEdgesTest::greatFirstWhenOldLeavesOneCellLess),
            new Words("than the young ones take",
                    TermsEdgesTest::unreachedYoungCountForTheGreatOne),
            new Words("than the young ones take",
                    TermsEdgesTest::noGreatWithoutYoungThoughOldIsFull),
            new Words("from any old object, which may itself not be reached",
                    TermsEdgesTest::smallKeepsWhatAnUnreachedOldOneReaches),
            new Words("a great one comes first", TermsEdgesTest::smallLosesWhatAGoneOldOneReached),
            new Words("if they take more cells than the old ones leave",
                    TermsEdgesTest::smallFitsToTheLastCellAfterAGreatOne),
            new Words("if they take more cells than the old ones leave, it FAILS",
                    TermsEdgesTest::smallFailsByOneCell),
            new Words("what the great one did stays done",
                    TermsEdgesTest::whatTheGreatOneDidStaysDone),
            new Words("it FAILS", TermsEdgesTest::aFailedOneLeavesTheYoung),
            new Words("it FAILS", TermsEdgesTest::aFailedOneCanBeMended),
            new Words("Otherwise they become old", TermsEdgesTest::theyBecomeOld),
            new Words("the other young ones are gone", TermsEdgesTest::theOtherYoungOnesAreGone),
            new Words("each weak cell whose target is gone has null instead",
                    TermsEdgesTest::smallCutsTargetsThatAreGone),
            new Words("whose target is gone", TermsEdgesTest::smallKeepsTargetsThatBecomeOld),
            new Words("whose target is gone", TermsEdgesTest::smallKeepsAnUnreachedOldTarget),
            new Words("whose target is gone",
                    TermsEdgesTest::smallKeepsATargetThatOnlyAnUnreachedOldOneReaches),
        });
        runEach("making", new Words[] {
            new Words("more than YOUNG cells", TermsEdgesTest::makeToTheLastYoungCell),
            new Words("more than YOUNG cells", TermsEdgesTest::weakToTheLastYoungCell),
            new Words("a small collection comes first", TermsEdgesTest::makeOneCellBeyondYoung),
            new Words("a small collection comes first", TermsEdgesTest::weakOneCellBeyondYoung),
            new Words("more than YOUNG cells with it", TermsEdgesTest::makeAnObjectAsLargeAsYoung),
            new Words("a small collection comes first", TermsEdgesTest::makeWithAGreatOneFirst),
            new Words("if that fails, the object is not made",
                    TermsEdgesTest::makeIsNotMadeWhenThatFails),
            new Words("if that fails, the object is not made",
                    TermsEdgesTest::weakIsNotMadeWhenThatFails),
            new Words("if that fails, the object is not made",
                    TermsEdgesTest::whatTheGreatOneDidStaysDoneWhenNotMade),
            new Words("if the young ones would take more",
                    TermsEdgesTest::whatFitsIsMadeThoughASmallOneWouldFail),
        });
        runEach("exceptions", new Words[] {
            new Words("when there is no such register", TermsEdgesTest::noSuchRegister),
            new Words("when there is no such register", TermsEdgesTest::eachRegisterIsOne),
            new Words("it changes nothing then", TermsEdgesTest::aRefusedMakeChangesNothing),
            new Words("it changes nothing then", TermsEdgesTest::aRefusedWeakChangesNothing),
            new Words("it changes nothing then", TermsEdgesTest::aRefusedLoadChangesNothing),
            new Words("it changes nothing then", TermsEdgesTest::aRefusedStoreChangesNothing),
            new Words("it changes nothing then", TermsEdgesTest::aRefusedTargetChangesNothing),
            new Words("it changes nothing then", TermsEdgesTest::aRefusedNumberChangesNothing),
            new Words("it changes nothing then",
                    TermsEdgesTest::aRefusedClearOrMoveChangesNothing),
            new Words("It throws IllegalStateException when a small collection fails",
                    TermsEdgesTest::stateIsWrongWhenASmallOneFails),
            new Words("A register that a call gives a value gets it last",
                    TermsEdgesTest::makeKeepsWhatItsRegisterHeld),
            new Words("A register that a call gives a value gets it last",
                    TermsEdgesTest::makeFailsForWhatItsRegisterHolds),
            new Words("A register that a call gives a value gets it last",
                    TermsEdgesTest::weakKeepsTheTargetThatItsRegisterHeld),
            new Words("A register that a call gives a value gets it last",
                    TermsEdgesTest::loadAndTargetIntoTheirOwnRegister),
        });
        runEach("not promised", new Words[] {
            new Words("Nothing is promised beyond the answers and state changes described above",
                    TermsEdgesTest::askingChangesNothing),
        });
        end("all edges of the terms hold");
    }
}
