import java.io.IOException;
import java.lang.reflect.InvocationTargetException;
import java.lang.reflect.Method;
import java.nio.file.Files;
import java.nio.file.Path;
import java.util.ArrayList;
import java.util.HashMap;
import java.util.List;
import java.util.Map;
import java.util.regex.Matcher;
import java.util.regex.Pattern;
import java.util.stream.Stream;

/** What README.md says: its example answers as it tells, and it names every call and every test. */
public final class ReadmeTest {
    private static final Check check = new Check("ReadmeTest");
    private static final Pattern LINE = Pattern.compile("(?:int (\\w+) = )?grid\\.(\\w+)\\((.*?)\\);\\s*// (.*)");
    private static final Pattern DUE = Pattern.compile("(answers|throws) (-?\\w+):.*");
    private static final Pattern CALL = Pattern.compile("(?m)^\\| `(\\w+)\\(([^)]*)\\)` \\|");
    private static final String FIRST_LINE = "NemaGrid grid = new NemaGrid();";

    private static String example(String readme) {
        int from = readme.indexOf("```java\n");
        int to = readme.indexOf("```\n", from + 1);
        check.due("there is an example", from >= 0 && to > from ? 1 : 0, 1);
        return from >= 0 && to > from ? readme.substring(from + "```java\n".length(), to) : "";
    }

    private static Method named(String name) {
        for (Method method : NemaGrid.class.getDeclaredMethods()) {
            if (method.getName().equals(name)) {
                return method;
            }
        }
        return null;
    }

    private static Object valued(String word, Map<String, Integer> known) throws ReflectiveOperationException {
        if (word.equals("true") || word.equals("false")) {
            return word.equals("true");
        }
        if (word.startsWith("NemaGrid.")) {
            return NemaGrid.class.getField(word.substring("NemaGrid.".length())).getInt(null);
        }
        return known.containsKey(word) ? known.get(word) : Integer.valueOf(word);
    }

    private static String answer(NemaGrid grid, Matcher line, Map<String, Integer> known)
            throws ReflectiveOperationException {
        List<Object> values = new ArrayList<>();
        for (String word : line.group(3).isEmpty() ? new String[0] : line.group(3).split(", ")) {
            values.add(valued(word, known));
        }
        try {
            Object got = named(line.group(2)).invoke(grid, values.toArray());
            if (line.group(1) != null) {
                known.put(line.group(1), (Integer) got);
            }
            return "answers " + got;
        } catch (InvocationTargetException refused) {
            return "throws " + refused.getCause().getClass().getSimpleName();
        }
    }

    private static void exampleAnswers(String readme) throws ReflectiveOperationException {
        String[] lines = example(readme).split("\n");
        check.due("the first line", lines[0].startsWith(FIRST_LINE) ? FIRST_LINE : lines[0], FIRST_LINE);
        NemaGrid grid = new NemaGrid();
        Map<String, Integer> known = new HashMap<>();
        for (int i = 1; i < lines.length; i++) {
            Matcher line = LINE.matcher(lines[i]);
            if (!line.matches()) {
                check.due("line " + i + " of the example", lines[i], "a call with what it answers");
                continue;
            }
            String got = answer(grid, line, known);
            Matcher due = DUE.matcher(line.group(4));
            check.due(lines[i], got, due.matches() ? due.group(1) + " " + due.group(2) : "answers null");
        }
    }

    private static void everyCall(String readme) {
        Map<String, Integer> rows = new HashMap<>();
        Matcher row = CALL.matcher(readme);
        while (row.find()) {
            rows.put(row.group(1), row.group(2).isEmpty() ? 0 : row.group(2).split(", ").length);
        }
        int calls = 0;
        for (Method method : NemaGrid.class.getMethods()) {
            if (method.getDeclaringClass() == NemaGrid.class) {
                calls++;
                check.due("arguments of " + method.getName(), rows.getOrDefault(method.getName(), -1),
                        method.getParameterCount());
            }
        }
        check.due("calls", rows.size(), calls);
    }

    private static void everyTest(String readme) throws IOException {
        List<String> names = new ArrayList<>();
        try (Stream<Path> files = Files.list(Path.of("src/test/java"))) {
            files.forEach(file -> names.add(file.getFileName().toString().replace(".java", "")));
        }
        for (String name : names) {
            if (name.endsWith("Test") && !name.startsWith("Promise")) {
                check.due("README.md names " + name, readme.contains("`" + name + "`") ? 1 : 0, 1);
            }
        }
        Matcher told = Pattern.compile("`(\\w+Test|Grid|Later|Model)`").matcher(readme);
        while (told.find()) {
            check.due(told.group(1) + " is there", names.contains(told.group(1)) ? 1 : 0, 1);
        }
    }

    public static void main(String[] args) throws IOException, ReflectiveOperationException {
        String readme = Files.readString(Path.of("README.md"));
        exampleAnswers(readme);
        everyCall(readme);
        everyTest(readme);
        check.end();
    }
}
