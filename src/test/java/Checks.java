/** What the tests written by hand share: they count the answers that are not as due. */
abstract class Checks {
    static final int NULL = 0;
    static final int INT = 1;
    static final int OBJECT = 2;
    static final int WEAK = 3;
    static final int NONE = TwoGenerations.NONE;
    static final int LOWEST_INT = -1073741824;
    static final int HIGHEST_INT = 1073741823;

    private static String place = "";
    private static int wrong = 0;

    interface Call {
        void run();
    }

    /** Words of the document, and the test that would fail if they did not hold. */
    record Words(String said, Call test) {
    }

    static void due(String what, long got, long want) {
        if (got != want) {
            tell(what + " is " + got + ", due is " + want);
        }
    }

    static void due(String what, boolean got, boolean want) {
        due(what, got ? 1 : 0, want ? 1 : 0);
    }

    static void due(String what, String got, String want) {
        if (!got.equals(want)) {
            tell(what + " is\n  " + got + "\ndue is\n  " + want);
        }
    }

    static void refused(String what, Call call) {
        dueThrow(what, call, IllegalArgumentException.class);
    }

    static void fails(String what, Call call) {
        dueThrow(what, call, IllegalStateException.class);
    }

    static void dueThrow(String what, Call call, Class<?> want) {
        Class<?> got = thrownBy(call);
        if (got != want) {
            tell(what + " throws " + got + ", due is " + want);
        }
    }

    static Class<?> thrownBy(Call call) {
        try {
            call.run();
            return null;
        } catch (RuntimeException e) {
            return e.getClass();
        }
    }

    static void dueCells(TwoGenerations x, int young, int old) {
        due("cells(0)", x.cells(0), young);
        due("cells(1)", x.cells(1), old);
    }

    static void dueCollections(TwoGenerations x, int small, int great) {
        due("collections(0)", x.collections(0), small);
        due("collections(1)", x.collections(1), great);
    }

    /** Puts an object in front of the chain in register 0; it takes two cells. */
    static void prolongChain(TwoGenerations x) {
        x.make(1, 1);
        x.store(1, 0, 0);
        x.move(0, 1);
    }

    /** Four registers, YOUNG 6, OLD 6; register 0 holds a chain that fills the old cells. */
    static TwoGenerations withFullOld() {
        TwoGenerations x = new TwoGenerations(4, 6, 6);
        for (int k = 0; k < 3; k++) {
            prolongChain(x);
        }
        x.clear(1);
        x.small();
        return x;
    }

    /** Register 0 an old object of two fields, 1 the int 6, 2 a young weak cell, 3 null. */
    static TwoGenerations withEachKind() {
        TwoGenerations x = new TwoGenerations(4, 16, 40);
        x.make(0, 2);
        x.small();
        x.number(1, 6);
        x.weak(2, 0);
        return x;
    }

    /** Ints that are no register of a heap with so many of them. */
    static int[] besides(int registers) {
        return new int[] {-1, registers, registers + 1, 8, Integer.MAX_VALUE, Integer.MIN_VALUE};
    }

    static void runEach(String where, Words[] all) {
        for (Words words : all) {
            place = where + ", \"" + words.said() + "\"";
            dueThrow("the whole test", words.test(), null);
        }
    }

    static void end(String ifRight) {
        System.out.println(wrong == 0 ? ifRight : wrong + " answers are not as due");
        if (wrong != 0) {
            System.exit(1);
        }
    }

    static void at(String newPlace) {
        place = newPlace;
    }

    private static void tell(String what) {
        wrong++;
        System.out.println(place + ": " + what);
    }
}
