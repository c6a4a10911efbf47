/**
 * A heap in two generations behind registers: objects are born young, survivors of a small
 * collection become old, a great collection clears the old ones that nothing reaches, and weak
 * cells tell of objects without keeping them.
 */
public final class TwoGenerations {
    public static final int NONE = -1;

    private static final int LOWEST_INT = -(1 << 30);
    private static final int HIGHEST_INT = (1 << 30) - 1;
    private static final int MOST_FIELDS = 11;

    private final Value[] registers;
    private final Generation young;
    private final Generation old;
    private final Trace trace;
    private int smallCollections;
    private int greatCollections;

    public TwoGenerations(int registers, int young, int old) {
        this.registers = new Value[within(registers, 1, 8) ? registers : 4];
        this.young = new Generation(within(young, 4, 60) ? young : 16);
        this.old = new Generation(within(old, 4, 120) ? old : 40);
        this.trace = new Trace(this.young.limit + this.old.limit);
    }

    public void make(int to, int n) throws IllegalArgumentException, IllegalStateException {
        if (!isRegister(to) || !within(n, 0, MOST_FIELDS) || n + 1 > young.limit) {
            throw new IllegalArgumentException("no such register, or too few or too many fields");
        }
        bear(to, new Plain(n));
    }

    public void weak(int to, int from) throws IllegalArgumentException, IllegalStateException {
        Thing target = thingIn(from);
        if (!isRegister(to) || target == null) {
            throw new IllegalArgumentException("no such register, or no object to aim at");
        }
        bear(to, new Weak(target));
    }

    public void load(int to, int of, int i) throws IllegalArgumentException {
        Plain holder = plainIn(of);
        if (!isRegister(to) || holder == null || !holder.hasField(i)) {
            throw new IllegalArgumentException("no such register or field");
        }
        registers[to] = holder.contents[i];
    }

    public void store(int of, int i, int from) throws IllegalArgumentException {
        Plain holder = plainIn(of);
        if (!isRegister(from) || holder == null || !holder.hasField(i)) {
            throw new IllegalArgumentException("no such register or field");
        }
        holder.contents[i] = registers[from];
    }

    public void target(int to, int of) throws IllegalArgumentException {
        Weak cell = weakIn(of);
        if (!isRegister(to) || cell == null) {
            throw new IllegalArgumentException("no such register, or no weak cell");
        }
        registers[to] = cell.target;
    }

    public void number(int to, int v) throws IllegalArgumentException {
        if (!isRegister(to) || !within(v, LOWEST_INT, HIGHEST_INT)) {
            throw new IllegalArgumentException("no such register, or the int is out of range");
        }
        registers[to] = new Whole(v);
    }

    public void clear(int to) throws IllegalArgumentException {
        if (!isRegister(to)) {
            throw new IllegalArgumentException("no such register");
        }
        registers[to] = null;
    }

    public void move(int to, int from) throws IllegalArgumentException {
        if (!isRegister(to) || !isRegister(from)) {
            throw new IllegalArgumentException("no such register");
        }
        registers[to] = registers[from];
    }

    public int kind(int register) {
        if (!isRegister(register)) {
            return NONE;
        }
        Value held = registers[register];
        if (held == null) {
            return 0;
        }
        if (held instanceof Whole) {
            return 1;
        }
        return held instanceof Plain ? 2 : 3;
    }

    public int value(int register) {
        return heldIn(register) instanceof Whole whole ? whole.number : 0;
    }

    public int fields(int register) {
        Plain plain = plainIn(register);
        return plain == null ? NONE : plain.contents.length;
    }

    public boolean same(int a, int b) {
        if (!isRegister(a) || !isRegister(b)) {
            return false;
        }
        if (registers[a] instanceof Whole one && registers[b] instanceof Whole other) {
            return one.number == other.number;
        }
        return registers[a] == registers[b];
    }

    public int generation(int register) {
        Thing thing = thingIn(register);
        if (thing == null) {
            return NONE;
        }
        return thing.isOld ? 1 : 0;
    }

    public int reach(int register) {
        trace.restart();
        trace.find(heldIn(register));
        trace.follow();
        return trace.cells;
    }

    public int small() throws IllegalStateException {
        int cells = collectYoung();
        if (cells == NONE) {
            throw new IllegalStateException("the old generation is full");
        }
        return cells;
    }

    public int great() {
        return collectOld();
    }

    public int cells(int generation) {
        if (generation == 0) {
            return young.taken;
        }
        return generation == 1 ? old.taken : NONE;
    }

    public int collections(int which) {
        if (which == 0) {
            return smallCollections;
        }
        return which == 1 ? greatCollections : NONE;
    }

    private static boolean within(int v, int lowest, int highest) {
        return lowest <= v && v <= highest;
    }

    private boolean isRegister(int register) {
        return within(register, 0, registers.length - 1);
    }

    private Value heldIn(int register) {
        return isRegister(register) ? registers[register] : null;
    }

    private Thing thingIn(int register) {
        return heldIn(register) instanceof Thing thing ? thing : null;
    }

    private Plain plainIn(int register) {
        return heldIn(register) instanceof Plain plain ? plain : null;
    }

    private Weak weakIn(int register) {
        return heldIn(register) instanceof Weak cell ? cell : null;
    }

    /** The register gets the newborn last, so what it held before still counts in a collection. */
    private void bear(int to, Thing newborn) throws IllegalStateException {
        if (newborn.size > young.free() && collectYoung() == NONE) {
            throw new IllegalStateException("the old generation is full");
        }
        young.add(newborn);
        registers[to] = newborn;
    }

    /** A small collection: how many cells became old, or NONE when it fails. */
    private int collectYoung() {
        if (old.free() < young.taken) {
            collectOld();
        }
        trace.restart();
        findRegisters();
        // An old object keeps the young ones it reaches even when nothing reaches it.
        trace.findAll(old);
        trace.follow();
        int survivors = young.reachedCells();
        if (survivors > old.free()) {
            return NONE;
        }
        // Every old object is found by now, so only the targets that go are not reached.
        young.cutTargets();
        old.cutTargets();
        old.adoptReached(young);
        young.empty();
        smallCollections++;
        return survivors;
    }

    /** A great collection: how many old cells it made free. */
    private int collectOld() {
        trace.restart();
        findRegisters();
        trace.follow();
        young.cutTargets();
        old.cutTargets();
        int before = old.taken;
        old.keepReached();
        greatCollections++;
        return before - old.taken;
    }

    private void findRegisters() {
        for (int r = 0; r < registers.length; r++) {
            trace.find(registers[r]);
        }
    }

    /** What a register or a field holds, unless it is null. */
    private abstract static class Value {
    }

    /** An int as a value. */
    private static final class Whole extends Value {
        final int number;

        Whole(int number) {
            this.number = number;
        }
    }

    /** An object of the heap. */
    private abstract static class Thing extends Value {
        final int size;
        boolean isOld;
        /** Whether the newest trace has found it. */
        boolean isReached;

        Thing(int size) {
            this.size = size;
        }
    }

    /** An object with fields, or with none. */
    private static final class Plain extends Thing {
        final Value[] contents;

        Plain(int n) {
            super(n + 1);
            this.contents = new Value[n];
        }

        boolean hasField(int i) {
            return 0 <= i && i < contents.length;
        }
    }

    /** A weak cell. */
    private static final class Weak extends Thing {
        Thing target;

        Weak(Thing target) {
            super(2);
            this.target = target;
        }

        void cutUnreachedTarget() {
            if (target != null && !target.isReached) {
                target = null;
            }
        }
    }

    /** The objects of one age, and the cells that they take. */
    private static final class Generation {
        final int limit;
        /** As long as the limit, because no object takes less than one cell. */
        final Thing[] things;
        int count;
        int taken;

        Generation(int limit) {
            this.limit = limit;
            this.things = new Thing[limit];
        }

        int free() {
            return limit - taken;
        }

        void add(Thing thing) {
            if (count < things.length) {
                things[count] = thing;
                count++;
                taken += thing.size;
            }
        }

        void empty() {
            count = 0;
            taken = 0;
        }

        int reachedCells() {
            int cells = 0;
            for (int k = 0; k < count; k++) {
                Thing thing = things[k];
                if (thing != null && thing.isReached) {
                    cells += thing.size;
                }
            }
            return cells;
        }

        void cutTargets() {
            for (int k = 0; k < count; k++) {
                if (things[k] instanceof Weak cell) {
                    cell.cutUnreachedTarget();
                }
            }
        }

        void keepReached() {
            int before = count;
            empty();
            for (int k = 0; k < before; k++) {
                Thing thing = things[k];
                if (thing != null && thing.isReached) {
                    add(thing);
                }
            }
        }

        void adoptReached(Generation younger) {
            for (int k = 0; k < younger.count; k++) {
                Thing thing = younger.things[k];
                if (thing != null && thing.isReached) {
                    thing.isOld = true;
                    add(thing);
                }
            }
        }
    }

    /** The objects that one search has found, each once. */
    private static final class Trace {
        final Thing[] found;
        int count;
        int cells;

        Trace(int most) {
            this.found = new Thing[most];
        }

        void restart() {
            for (int k = 0; k < count; k++) {
                Thing thing = found[k];
                if (thing != null) {
                    thing.isReached = false;
                }
            }
            count = 0;
            cells = 0;
        }

        void find(Value value) {
            if (value instanceof Thing thing && !thing.isReached && count < found.length) {
                thing.isReached = true;
                found[count] = thing;
                count++;
                cells += thing.size;
            }
        }

        void findAll(Generation generation) {
            for (int k = 0; k < generation.count; k++) {
                find(generation.things[k]);
            }
        }

        /** Goes over what is found while that still grows, so it needs no stack. */
        void follow() {
            for (int next = 0; next < found.length && next < count; next++) {
                if (found[next] instanceof Plain plain) {
                    findContents(plain);
                }
            }
        }

        void findContents(Plain plain) {
            for (int i = 0; i < plain.contents.length; i++) {
                find(plain.contents[i]);
            }
        }
    }
}
