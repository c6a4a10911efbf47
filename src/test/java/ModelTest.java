import java.util.ArrayList;
import java.util.HashSet;
import java.util.List;
import java.util.Set;

/**
 * Long runs of calls on the program and on a model written down from the document's words, with
 * sets and recursion; every answer and every exception must be the same. The calls come from a
 * fixed series, so that each run of the test makes the same ones.
 */
public final class ModelTest {
    private static final int RUNS = 6000;
    private static final int CALLS = 512;
    private static final String BAD = "throws.IllegalArgumentException";
    private static final String FULL = "throws.IllegalStateException";

    private long series;

    private ModelTest(long seed) {
        series = seed * 0x9E3779B97F4A7C15L + 1;
    }

    private int below(int n) {
        series = series * 6364136223846793005L + 1442695040888963407L;
        return (int) ((series >>> 33) % n);
    }

    private static final class Obj {
        final Object[] fields; // null for a weak cell
        final int cells;
        Obj target;

        Obj(int n) {
            fields = new Object[n];
            cells = n + 1;
        }

        Obj(Obj target) {
            this.fields = null;
            this.cells = 2;
            this.target = target;
        }
    }

    private static final class Model {
        final Object[] reg;
        final int mostYoung;
        final int mostOld;
        Set<Obj> young = new HashSet<>();
        Set<Obj> old = new HashSet<>();
        int smalls;
        int greats;
        int failures;

        Model(int registers, int young, int old) {
            reg = new Object[registers < 1 || registers > 8 ? 4 : registers];
            mostYoung = young < 4 || young > 60 ? 16 : young;
            mostOld = old < 4 || old > 120 ? 40 : old;
        }

        static int sum(Set<Obj> objects) {
            return objects.stream().mapToInt(o -> o.cells).sum();
        }

        static void reach(Object from, Set<Obj> into) {
            if (from instanceof Obj o && into.add(o) && o.fields != null) {
                for (Object held : o.fields) {
                    reach(held, into);
                }
            }
        }

        Set<Obj> reachedFromRegisters() {
            Set<Obj> reached = new HashSet<>();
            for (Object held : reg) {
                reach(held, reached);
            }
            return reached;
        }

        void forget(Set<Obj> kept) {
            Set<Obj> all = new HashSet<>(young);
            all.addAll(old);
            for (Obj o : all) {
                if (o.target != null && !kept.contains(o.target)) {
                    o.target = null;
                }
            }
        }

        int great() {
            Set<Obj> reached = reachedFromRegisters();
            int before = sum(old);
            forget(reached);
            old.retainAll(reached);
            greats++;
            return before - sum(old);
        }

        /** The cells that became old, or -1 when it fails. */
        int small() {
            if (mostOld - sum(old) < sum(young)) {
                great();
            }
            Set<Obj> reached = reachedFromRegisters();
            for (Obj o : old) {
                reach(o, reached);
            }
            Set<Obj> survivors = new HashSet<>(young);
            survivors.retainAll(reached);
            if (sum(survivors) > mostOld - sum(old)) {
                failures++;
                return -1;
            }
            old.addAll(survivors);
            young.clear();
            forget(old);
            smalls++;
            return sum(survivors);
        }

        String bear(int to, Obj o) {
            if (sum(young) + o.cells > mostYoung && small() < 0) {
                return FULL;
            }
            young.add(o);
            reg[to] = o;
            return "done";
        }

        boolean is(int r) {
            return r >= 0 && r < reg.length;
        }

        Obj obj(int r) {
            return is(r) && reg[r] instanceof Obj o ? o : null;
        }

        Obj withField(int r, int i) {
            Obj o = obj(r);
            return o != null && o.fields != null && i >= 0 && i < o.fields.length ? o : null;
        }

        String set(int to, Object held) {
            reg[to] = held;
            return "done";
        }

        String change(int call, int a, int b, int c) {
            switch (call) {
                case 0:
                    return !is(a) || b < 0 || b > 11 || b + 1 > mostYoung ? BAD : bear(a, new Obj(b));
                case 1:
                    return !is(a) || obj(b) == null ? BAD : bear(a, new Obj(obj(b)));
                case 2:
                    return !is(a) || withField(b, c) == null ? BAD : set(a, obj(b).fields[c]);
                case 3:
                    if (!is(c) || withField(a, b) == null) {
                        return BAD;
                    }
                    obj(a).fields[b] = reg[c];
                    return "done";
                case 4:
                    return !is(a) || obj(b) == null || obj(b).fields != null
                            ? BAD : set(a, obj(b).target);
                case 5:
                    return !is(a) || b < -1073741824 || b > 1073741823 ? BAD : set(a, b);
                case 6:
                    return !is(a) ? BAD : set(a, null);
                case 7:
                    return !is(a) || !is(b) ? BAD : set(a, reg[b]);
                default:
                    int became = small();
                    return became < 0 ? FULL : String.valueOf(became);
            }
        }

        int ask(int call, int a, int b) {
            Obj o = obj(a);
            switch (call) {
                case 9:
                    return great();
                case 10:
                    return !is(a) ? -1 : reg[a] == null ? 0 : o == null ? 1 : o.fields != null ? 2 : 3;
                case 11:
                    return is(a) && reg[a] instanceof Integer v ? v : 0;
                case 12:
                    return o == null || o.fields == null ? -1 : o.fields.length;
                case 13:
                    return is(a) && is(b) && java.util.Objects.equals(reg[a], reg[b]) ? 1 : 0;
                case 14:
                    return o == null ? -1 : old.contains(o) ? 1 : 0;
                case 15:
                    Set<Obj> reached = new HashSet<>();
                    reach(o, reached);
                    return sum(reached);
                case 16:
                    return a == 0 ? sum(young) : a == 1 ? sum(old) : -1;
                default:
                    return a == 0 ? smalls : a == 1 ? greats : -1;
            }
        }

        String answer(int[] row) {
            return row[0] < 9 ? change(row[0], row[1], row[2], row[3])
                    : String.valueOf(ask(row[0], row[1], row[2]));
        }
    }

    private static String answer(TwoGenerations x, int[] row) {
        int a = row[1];
        int b = row[2];
        int c = row[3];
        try {
            switch (row[0]) {
                case 0: x.make(a, b); return "done";
                case 1: x.weak(a, b); return "done";
                case 2: x.load(a, b, c); return "done";
                case 3: x.store(a, b, c); return "done";
                case 4: x.target(a, b); return "done";
                case 5: x.number(a, b); return "done";
                case 6: x.clear(a); return "done";
                case 7: x.move(a, b); return "done";
                case 8: return String.valueOf(x.small());
                case 9: return String.valueOf(x.great());
                case 10: return String.valueOf(x.kind(a));
                case 11: return String.valueOf(x.value(a));
                case 12: return String.valueOf(x.fields(a));
                case 13: return x.same(a, b) ? "1" : "0";
                case 14: return String.valueOf(x.generation(a));
                case 15: return String.valueOf(x.reach(a));
                case 16: return String.valueOf(x.cells(a));
                default: return String.valueOf(x.collections(a));
            }
        } catch (RuntimeException e) {
            return "throws." + e.getClass().getSimpleName();
        }
    }

    private static final String[] NAMES = {"make", "weak", "load", "store", "target", "number",
        "clear", "move", "small", "great", "kind", "value", "fields", "same", "generation", "reach",
        "cells", "collections"};

    /** How often each call comes; the rows are for runs that build much and that clear much. */
    private static final int[][] OFTEN = {
        {18, 8, 10, 22, 6, 3, 5, 6, 2, 1, 2, 1, 1, 2, 3, 6, 3, 2},
        {14, 8, 12, 12, 10, 3, 16, 6, 4, 4, 3, 1, 1, 3, 3, 4, 3, 2},
        {20, 6, 6, 30, 4, 1, 2, 4, 1, 1, 1, 1, 1, 1, 1, 3, 2, 1},
    };

    private int someCall(int[] often) {
        int sum = 0;
        for (int n : often) {
            sum += n;
        }
        int at = below(sum);
        int call = 0;
        while (at >= often[call]) {
            at -= often[call];
            call++;
        }
        return call;
    }

    private int someRegister(int registers) {
        if (below(60) > 0) {
            return below(registers);
        }
        int[] edges = {-1, registers, registers + 1, Integer.MAX_VALUE, Integer.MIN_VALUE};
        return edges[below(edges.length)];
    }

    /** A field that the object in the register has, most of the time. */
    private int someField(Model model, int register) {
        Obj o = model.obj(register);
        if (o == null || o.fields == null || below(25) == 0) {
            return below(14) - 1;
        }
        return o.fields.length == 0 ? 0 : below(o.fields.length);
    }

    private int someNumber() {
        int[] edges = {1073741823, 1073741824, -1073741824, -1073741825, Integer.MIN_VALUE};
        return below(6) == 0 ? edges[below(edges.length)] : below(7) - 3;
    }

    private int[] someRow(Model model, int[] often) {
        int registers = model.reg.length;
        int call = someCall(often);
        int a = someRegister(registers);
        int b = someRegister(registers);
        int c = someRegister(registers);
        switch (call) {
            case 0:
                int most = Math.min(11, model.mostYoung - 1);
                b = below(20) == 0 ? below(16) - 2 : below(1 + below(most + 1));
                break;
            case 2:
                c = someField(model, b);
                break;
            case 3:
                b = someField(model, a);
                break;
            case 5:
                b = someNumber();
                break;
            case 16:
            case 17:
                a = below(10) == 0 ? below(5) - 2 : below(2);
                break;
            default:
                break;
        }
        return new int[] {call, a, b, c};
    }

    private int someSize(int lowest, int highest, int few) {
        switch (below(12)) {
            case 0: return lowest - 1;
            case 1: return highest + 1;
            case 2: return lowest;
            case 3: return highest;
            case 4: return lowest + below(highest - lowest + 1);
            default: return lowest + below(few);
        }
    }

    private static String told(int[] row) {
        return NAMES[row[0]] + "(" + row[1] + ", " + row[2] + ", " + row[3] + ")";
    }

    /** What the model met in all runs, to be sure that the runs go where they should. */
    private static int smalls = 0;
    private static int greats = 0;
    private static int failures = 0;

    private static boolean runIsRight(int run) {
        ModelTest test = new ModelTest(run);
        int registers = test.someSize(1, 8, 5);
        int young = test.someSize(4, 60, 14);
        int old = test.someSize(4, 120, 24);
        int[] often = OFTEN[run % OFTEN.length];
        TwoGenerations program = new TwoGenerations(registers, young, old);
        Model model = new Model(registers, young, old);
        List<String> calls = new ArrayList<>();
        for (int k = 0; k < CALLS; k++) {
            int[] row = test.someRow(model, often);
            String want = model.answer(row);
            String got = answer(program, row);
            calls.add(told(row) + " " + got);
            if (!got.equals(want)) {
                System.out.println("run " + run + " on (" + registers + ", " + young + ", " + old
                        + "), call " + k + ": " + told(row) + " answered " + got + ", due is " + want);
                calls.forEach(System.out::println);
                return false;
            }
        }
        smalls += model.smalls;
        greats += model.greats;
        failures += model.failures;
        return true;
    }

    public static void main(String[] args) {
        for (int run = 0; run < RUNS; run++) {
            if (!runIsRight(run)) {
                System.exit(1);
            }
        }
        System.out.println(RUNS + " runs as the model has them, with " + smalls + " small and "
                + greats + " great collections, and " + failures + " that failed");
        if (smalls < RUNS || greats < RUNS || failures < RUNS) {
            System.out.println("too few collections to tell");
            System.exit(1);
        }
    }
}
