import java.io.File;
import java.io.IOException;
import java.lang.reflect.Method;
import java.lang.reflect.Modifier;
import java.nio.file.Files;
import java.nio.file.Path;
import java.util.Arrays;
import java.util.regex.Matcher;
import java.util.regex.Pattern;

/** README.md tells of every call and every test, and its example answers as it says. */
public final class ReadmeTest extends Checks {
    private static final Pattern EXAMPLE = Pattern.compile("```java\n(.*?)```", Pattern.DOTALL);
    private static final Pattern NEW_HEAP = Pattern.compile("= new TwoGenerations\\((.*?)\\);");
    private static final Pattern CALL =
            Pattern.compile("heap\\.(\\w+)\\((.*?)\\);(?:\\s*// (-?\\d+|true|false):)?");

    private static int[] numbers(String told) {
        return told.isEmpty() ? new int[0]
                : Arrays.stream(told.split(", ")).mapToInt(Integer::parseInt).toArray();
    }

    private static Method callNamed(String name) {
        return Arrays.stream(TwoGenerations.class.getDeclaredMethods())
                .filter(m -> Modifier.isPublic(m.getModifiers()) && m.getName().equals(name))
                .findFirst().orElseThrow();
    }

    private static String answer(TwoGenerations heap, String name, int[] arguments) {
        try {
            Object[] boxed = Arrays.stream(arguments).boxed().toArray();
            return String.valueOf(callNamed(name).invoke(heap, boxed));
        } catch (ReflectiveOperationException e) {
            return "throws " + e.getCause();
        }
    }

    private static TwoGenerations heapOf(String row) {
        Matcher made = NEW_HEAP.matcher(row);
        due("heaps made in the first row", made.find(), true);
        int[] sizes = numbers(made.group(1));
        return new TwoGenerations(sizes[0], sizes[1], sizes[2]);
    }

    private static void exampleAnswersAsItSays(String readme) {
        Matcher example = EXAMPLE.matcher(readme);
        due("examples", example.find(), true);
        String[] rows = example.group(1).split("\n");
        TwoGenerations heap = heapOf(rows[0]);
        int answers = 0;
        for (int k = 1; k < rows.length; k++) {
            Matcher call = CALL.matcher(rows[k]);
            due("calls in \"" + rows[k] + "\"", call.find(), true);
            String got = answer(heap, call.group(1), numbers(call.group(2)));
            boolean answersNothing = callNamed(call.group(1)).getReturnType() == void.class;
            due(rows[k], got, answersNothing ? "null" : String.valueOf(call.group(3)));
            answers += answersNothing ? 0 : 1;
        }
        due("whether the example has answers", answers > 0, true);
    }

    private static void everyCallIsToldOf(String readme) {
        for (Method m : TwoGenerations.class.getDeclaredMethods()) {
            if (Modifier.isPublic(m.getModifiers())) {
                int most = m.getParameterCount();
                String parameters = most == 0 ? "" : "\\w+" + ", \\w+".repeat(most - 1);
                Pattern row = Pattern.compile("\\| `" + m.getName() + "\\(" + parameters + "\\)` \\|");
                due("whether a row tells of " + m.getName(), row.matcher(readme).find(), true);
            }
        }
    }

    private static void everyTestIsToldOf(String readme) {
        for (String file : new File("src/test/java").list()) {
            String name = file.replace(".java", "");
            due("whether it tells of " + name, readme.contains("`" + name + "`"), true);
        }
        due("whether it tells of .ci/run", readme.contains("\n    .ci/run\n"), true);
    }

    public static void main(String[] args) throws IOException {
        String readme = Files.readString(Path.of("README.md"));
        runEach("README.md", new Words[] {
            new Words("How to use it, the example", () -> exampleAnswersAsItSays(readme)),
            new Words("How to use it, the calls", () -> everyCallIsToldOf(readme)),
            new Words("How to run its tests", () -> everyTestIsToldOf(readme)),
        });
        end("README.md holds");
    }
}
