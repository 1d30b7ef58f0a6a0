import java.io.IOException;
import java.nio.file.Files;
import java.nio.file.Path;
import java.util.regex.Matcher;
import java.util.regex.Pattern;

/** What of ../shared/LANGUAGE.md can be seen in the text of the class; .ci/run gives the path of its source. */
public final class LanguageTest {
    private static final String[] NEVER = {
        "\\bimport\\b", "\\bpackage\\b", "\\btry\\b", "\\bcatch\\b", "\\bfinally\\b", "\\bsynchronized\\b",
        "\\bassert\\b", "->", "::", "\\bprotected\\b", "\\bnative\\b", "\\bvolatile\\b", "\\bSystem\\.(?!arraycopy)",
        "\\bInteger\\.[A-Z]", "\\bLong\\.[A-Z]", "Exact\\(", "\\bObject\\b", "\\bgetClass\\b", "\\bhashCode\\b",
        "\\btoString\\b", "\"\\s*\\+|\\+\\s*\"", "static\\s*\\{", "\\bvar\\b", "\\bwhile\\b", "@", "\\bjava\\.",
        "\\bRandom\\b", "\\bdouble\\b", "\\bfloat\\b", "\\binstanceof\\b",
    };
    private static final int MOST_LINES = 60, MOST_PARAMETERS = 7, MOST_CLASSES = 12;
    private static final Check check = new Check("LanguageTest");

    private static int count(String text, String pattern) {
        Matcher matcher = Pattern.compile(pattern).matcher(text);
        int found = 0;
        while (matcher.find()) {
            found++;
        }
        return found;
    }

    /** Methods and constructors are known by how they stand: indented, with a list of types and a brace behind. */
    private static void methods(String text) {
        Matcher heads = Pattern.compile("(?m)^( {4,8})(?:\\w[\\w\\[\\] ]* )?(\\w+)\\(([^()]*)\\)\\s*(?:throws [\\w, ]+)?\\{")
                .matcher(text);
        int found = 0;
        while (heads.find()) {
            found++;
            int end = text.indexOf("\n" + heads.group(1) + "}", heads.start());
            int lines = count(text.substring(heads.start(), end), "\n") + 1;
            check.due(heads.group(2) + " is short", lines <= MOST_LINES ? 1 : 0, 1);
            int parameters = heads.group(3).isBlank() ? 0 : heads.group(3).split(",").length;
            check.due(heads.group(2) + " takes few", parameters <= MOST_PARAMETERS ? 1 : 0, 1);
        }
        check.due("methods were found", found > 60 ? 1 : 0, 1);
    }

    private static void exceptions(String text) {
        check.due("each throw is of a named kind with a written text", count(text, "\\bthrow\\b"),
                count(text, "throw new (IllegalState|IllegalArgument|IndexOutOfBounds)Exception\\(\"[^\"]*\"\\);"));
        check.due("arrays are made in Row alone", count(text, "new int\\["), 1);
        int constructor = text.indexOf("public NemaGrid() {");
        check.due("nothing is made after the constructor and the rows", count(
                text.substring(text.indexOf("// ---- the grid", constructor), text.indexOf("class Row")),
                "\\bnew (?!\\w+Exception)"), 0);
    }

    public static void main(String[] args) throws IOException {
        String path = args.length > 0 ? args[0] : "src/main/java/NemaGrid.java";
        String whole = Files.readString(Path.of(path));
        for (int i = 0; i < whole.length(); i++) {
            if (whole.charAt(i) > 126) {
                check.due("the sign at " + i, whole.charAt(i), '?');
            }
        }
        String text = whole.replaceAll("(?s)/\\*.*?\\*/", "").replaceAll("// (?!----).*", "");
        for (String pattern : NEVER) {
            check.due("the source has " + pattern, count(text, pattern), 0);
        }
        int classes = count(text, "\\b(class|interface|enum|record) \\w+");
        check.due("a few classes", classes <= MOST_CLASSES ? 1 : 0, 1);
        check.due("all but the first are private, static and final", count(text, "private static final class"), classes - 1);
        methods(text);
        exceptions(text);
        check.end();
    }
}
