import java.lang.reflect.Constructor;
import java.lang.reflect.Field;
import java.lang.reflect.Method;
import java.lang.reflect.Modifier;
import java.util.Arrays;
import java.util.Set;
import java.util.TreeSet;

/** The class shows the document's face and no more (rules 1 and 5 of LANGUAGE.md). */
public final class FaceTest {
    private static final String BAD = " throws java.lang.IllegalArgumentException";
    private static final String BAD_OR_FULL = BAD + ",java.lang.IllegalStateException";
    private static final Set<String> FACE = Set.of(
            "public TwoGenerations(int,int,int)",
            "public static final int TwoGenerations.NONE",
            "public void TwoGenerations.make(int,int)" + BAD_OR_FULL,
            "public void TwoGenerations.weak(int,int)" + BAD_OR_FULL,
            "public void TwoGenerations.load(int,int,int)" + BAD,
            "public void TwoGenerations.store(int,int,int)" + BAD,
            "public void TwoGenerations.target(int,int)" + BAD,
            "public void TwoGenerations.number(int,int)" + BAD,
            "public void TwoGenerations.clear(int)" + BAD,
            "public void TwoGenerations.move(int,int)" + BAD,
            "public int TwoGenerations.kind(int)",
            "public int TwoGenerations.value(int)",
            "public int TwoGenerations.fields(int)",
            "public boolean TwoGenerations.same(int,int)",
            "public int TwoGenerations.generation(int)",
            "public int TwoGenerations.reach(int)",
            "public int TwoGenerations.small() throws java.lang.IllegalStateException",
            "public int TwoGenerations.great()",
            "public int TwoGenerations.cells(int)",
            "public int TwoGenerations.collections(int)");

    private static int wrong = 0;

    private static void expect(boolean holds, String what) {
        if (!holds) {
            wrong++;
            System.out.println("face: not so: " + what);
        }
    }

    private static Set<String> membersSeenFromOutside() {
        Set<String> seen = new TreeSet<>();
        for (Constructor<?> c : TwoGenerations.class.getDeclaredConstructors()) {
            if (!Modifier.isPrivate(c.getModifiers())) {
                seen.add(c.toString());
            }
        }
        for (Method m : TwoGenerations.class.getDeclaredMethods()) {
            if (!Modifier.isPrivate(m.getModifiers())) {
                seen.add(m.toString());
            }
        }
        for (Field f : TwoGenerations.class.getDeclaredFields()) {
            if (!Modifier.isPrivate(f.getModifiers())) {
                seen.add(f.toString());
            }
        }
        return seen;
    }

    private static void checkNames(Class<?> owner, Set<String> publicNames) {
        for (Method m : owner.getDeclaredMethods()) {
            boolean isFace = owner == TwoGenerations.class && Modifier.isPublic(m.getModifiers());
            expect(isFace || !publicNames.contains(m.getName()), m + " has a name of its own");
        }
        for (Field f : owner.getDeclaredFields()) {
            boolean isStatic = Modifier.isStatic(f.getModifiers());
            expect(!isStatic || Modifier.isFinal(f.getModifiers()), f + " is final");
        }
    }

    public static void main(String[] args) {
        int modifiers = TwoGenerations.class.getModifiers();
        expect(Modifier.isPublic(modifiers) && Modifier.isFinal(modifiers), "public and final");
        expect(TwoGenerations.NONE == -1, "NONE is -1");

        Set<String> seen = membersSeenFromOutside();
        expect(seen.equals(FACE), "the face is the document's, but it is " + seen);

        Set<String> publicNames = new TreeSet<>();
        Arrays.stream(TwoGenerations.class.getMethods())
                .filter(m -> m.getDeclaringClass() == TwoGenerations.class)
                .forEach(m -> publicNames.add(m.getName()));
        checkNames(TwoGenerations.class, publicNames);
        Class<?>[] inside = TwoGenerations.class.getDeclaredClasses();
        expect(inside.length <= 12, "at most twelve classes inside");
        for (Class<?> nested : inside) {
            int m = nested.getModifiers();
            expect(Modifier.isStatic(m), nested + " is static");
            expect(!Modifier.isPublic(m) && !Modifier.isProtected(m), nested + " is hidden");
            checkNames(nested, publicNames);
        }
        System.out.println(wrong == 0 ? "the face is as due" : wrong + " things are not so");
        if (wrong != 0) {
            System.exit(1);
        }
    }
}
