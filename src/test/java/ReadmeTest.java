import java.io.IOException;
import java.lang.reflect.Method;
import java.lang.reflect.Modifier;
import java.nio.file.Files;
import java.nio.file.Path;
import java.util.HashMap;
import java.util.List;
import java.util.Map;
import java.util.TreeSet;
import java.util.regex.Matcher;
import java.util.regex.Pattern;

/** That README.md's example answers as its comments say, and that its table has each call. */
public final class ReadmeTest {
    private static final String FIRST_LINE = "Slidewarden store = new Slidewarden();";
    /** A call, perhaps with a name for its answer, and behind it the answer that is told. */
    private static final Pattern LINE =
            Pattern.compile("(?:int (\\w+) = )?store\\.(\\w+)\\((.*)\\); +// (-?\\d+)(?::? .*)?");
    /** A row of the table: a call and its parameters. */
    private static final Pattern ROW = Pattern.compile("\\| `(\\w+)\\((.*)\\)` \\|.*");

    private ReadmeTest() {
    }

    public static void main(String[] args) throws IOException {
        List<String> lines = Files.readAllLines(Path.of("README.md"));
        example(lines);
        table(lines);
        Check.end("ReadmeTest");
    }

    private static void example(List<String> lines) {
        int start = lines.indexOf("```java") + 1;
        List<String> block = lines.subList(start, start + lines.subList(start, lines.size()).indexOf("```"));
        Check.due("README.md's first line of code", FIRST_LINE, block.get(0).replaceFirst(" *//.*", ""));
        Map<String, String> names = new HashMap<>();
        StringBuilder script = new StringBuilder();
        for (String line : block.subList(1, block.size())) {
            script.append(asScript(line, names)).append('\n');
        }
        Script.test("README.md's example", script.toString());
    }

    /** A line of Java as a line of a Script, with the numbers for which its names stand. */
    private static String asScript(String line, Map<String, String> names) {
        Matcher told = LINE.matcher(line);
        if (!told.matches()) {
            throw new Error("README.md: no call with its answer: " + line);
        }
        StringBuilder call = new StringBuilder(told.group(2));
        for (String word : told.group(3).split(", ")) {
            call.append(' ').append(names.getOrDefault(word, word.replace("Slidewarden.", "")));
        }
        if (told.group(1) != null) {
            names.put(told.group(1), told.group(4));
        }
        return call.append(" = ").append(told.group(4)).toString();
    }

    private static void table(List<String> lines) {
        TreeSet<String> told = new TreeSet<>();
        for (String line : lines) {
            Matcher row = ROW.matcher(line);
            if (row.matches()) {
                told.add(row.group(1) + " " + row.group(2).split(", ").length);
            }
        }
        TreeSet<String> there = new TreeSet<>();
        for (Method method : Slidewarden.class.getDeclaredMethods()) {
            if (Modifier.isPublic(method.getModifiers())) {
                there.add(method.getName() + " " + method.getParameterCount());
            }
        }
        Check.due("the calls of README.md's table", there.toString(), told.toString());
    }
}
