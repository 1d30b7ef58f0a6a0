import java.io.IOException;
import java.nio.file.Files;
import java.nio.file.Path;
import java.util.regex.Matcher;
import java.util.regex.Pattern;

/** What ../shared/LANGUAGE.md rules out, as far as it can be seen in the text of the class. */
public final class LanguageTest {
    private static final String[] NEVER = {
        // rules 1 and 2
        "\\bpackage\\b", "\\bprotected\\b", "::",
        // rule 4
        "\\bimport\\s+static\\b",
        "\\bimport\\s+(?!java\\.util\\.(ArrayList|List|Iterator|Arrays|NoSuchElementException|\\*);)",
        "\\bSystem\\.(?!arraycopy)", "Exact\\(",
        "\\bString\\.\\w", "\\.format\\(", "\\bgetClass\\b",
        // rule 5
        "static\\s*\\{",
        // rule 6
        "\\bfinally\\b", "\\btry\\s*\\(", "\\bsynchronized\\b", "\\bassert\\b", "\\bextends\\s+\\w*(Exception|Error)",
        "catch\\s*\\(\\s*(Throwable|Exception|Error|NullPointer|ArrayIndex|ClassCast|NegativeArray|ArrayStore)",
        "\\bhashCode\\b", "\\bgetMessage\\b",
        // rule 10
        "\"\\s*\\+|\\+\\s*\"",
        // rule 13
        "\\brandom\\(", "\\bThread\\.", "\\bRuntime\\.", "\\bnative\\b", "\\bvolatile\\b",
    };
    private static final String THROWN = "(IllegalStateException|IllegalArgumentException|IndexOutOfBoundsException"
            + "|ArithmeticException|UnsupportedOperationException|NoSuchElementException|RuntimeException)";
    private static final int SOME_SIXTY = 66, MOST_PARAMETERS = 7, SOME_TWELVE = 14;
    private static final Check check = new Check("LanguageTest");

    private static int count(String text, String pattern) {
        Matcher matcher = Pattern.compile(pattern).matcher(text);
        int found = 0;
        while (matcher.find()) {
            found++;
        }
        return found;
    }

    /** Methods and constructors are known by how they stand: indented, with a list of types and a brace behind. */
    private static void methods(String text) {
        Matcher heads = Pattern.compile("(?m)^( {4,12})(?:\\w[\\w\\[\\]<>, ]* )?(\\w+)\\(([^()]*)\\)\\s*"
                + "(?:throws [\\w,\\s]+)?\\{").matcher(text);
        int found = 0;
        while (heads.find()) {
            int end = text.indexOf("\n" + heads.group(1) + "}", heads.start());
            if (end < 0) {
                continue;
            }
            found++;
            int lines = count(text.substring(heads.start(), end), "\n") + 1;
            check.due(heads.group(2) + " is short, but for " + lines, lines <= SOME_SIXTY ? 1 : 0, 1);
            int parameters = heads.group(3).isBlank() ? 0 : heads.group(3).split(",").length;
            check.due(heads.group(2) + " takes few", parameters <= MOST_PARAMETERS ? 1 : 0, 1);
        }
        check.due("methods were found", found >= 25 ? 1 : 0, 1);
    }

    private static void signs(String whole) {
        for (int i = 0; i < whole.length(); i++) {
            if (whole.charAt(i) > 126) {
                check.due("the sign at " + i, whole.charAt(i), '?');
            }
        }
    }

    public static void main(String[] args) throws IOException {
        String path = args.length > 0 ? args[0] : "src/main/java/NemaGrid.java";
        String whole = Files.readString(Path.of(path));
        signs(whole);
        String text = whole.replaceAll("(?s)/\\*.*?\\*/", "").replaceAll("//.*", "");
        for (String pattern : NEVER) {
            check.due("the source has " + pattern, count(text, pattern), 0);
        }
        check.due("an arrow is one of a switch", count(text, "->"), count(text, "\\b(case [^;{}:>]*|default )->"));
        check.due("each throw is of a named kind, with a written text or none", count(text, "\\bthrow\\b"),
                count(text, "\\bthrow new " + THROWN + "\\((\"[^\"]*\")?\\);"));
        int classes = count(text, "\\b(class|interface|enum|record) \\w+");
        check.due("a few classes", classes <= SOME_TWELVE ? 1 : 0, 1);
        check.due("one of them is public",
                count(text, "\\bpublic (final |abstract |static )*(class|interface|enum|record)\\b"), 1);
        methods(text);
        check.end();
    }
}
