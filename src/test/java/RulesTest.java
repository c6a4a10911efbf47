import java.io.IOException;
import java.nio.file.Files;
import java.nio.file.Path;
import java.util.regex.Matcher;
import java.util.regex.Pattern;

/** What can be seen of the rules of LANGUAGE.md in the program's text alone. */
public final class RulesTest extends Checks {
    private static final Path PROGRAM = Path.of("src/main/java/TwoGenerations.java");
    private static final Pattern COMMENT = Pattern.compile("/\\*.*?\\*/|//[^\n]*", Pattern.DOTALL);

    private static void noneOf(String program, String pattern) {
        Matcher seen = Pattern.compile(pattern).matcher(program);
        due("what is seen", seen.find() ? seen.group() : "nothing", "nothing");
    }

    public static void main(String[] args) throws IOException {
        String program = COMMENT.matcher(Files.readString(PROGRAM)).replaceAll(" ");
        runEach("LANGUAGE.md", new Words[] {
            new Words("without a package line", () -> noneOf(program, "\\bpackage\\b")),
            new Words("2. no lambda, no method reference", () -> noneOf(program, "->|::")),
            new Words("4. The library: only what stands here",
                    () -> noneOf(program, "\\bimport\\b|\\bjavax?\\.")),
            new Words("6. No finally, .. No synchronized, assert",
                    () -> noneOf(program, "\\b(finally|synchronized|assert)\\b")),
            new Words("6. throw new E() or throw new E(\"a written text\")",
                    () -> noneOf(program, "\\bthrow (?!new Illegal(Argument|State)Exception"
                            + "\\(\"[^\"]*\"\\);)[^;]*")),
            // An element of a row may be null, so it is looked at under a name before it is used.
            new Words("7. a reference against null before it is used",
                    () -> noneOf(program, "\\w+\\[[^\\]]*\\]\\.\\w+")),
        });
        end("the program's text keeps to the rules");
    }
}
