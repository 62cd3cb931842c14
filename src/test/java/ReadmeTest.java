import java.io.IOException;
import java.nio.file.Files;
import java.nio.file.Path;
import java.util.ArrayList;
import java.util.List;
import java.util.Set;
import java.util.TreeSet;
import java.util.regex.Matcher;
import java.util.regex.Pattern;
import java.util.stream.Collectors;
import java.util.stream.Stream;

/** What README.md says of the class and of its tests holds. */
public final class ReadmeTest {
    private static final Pattern CALL = Pattern.compile("bench\\.(\\w+)\\(([^)]*)\\);\\s*// (-?\\d+)\\b.*");
    private static final Pattern NAME = Pattern.compile("`(\\w+)(\\([^`]*\\))?`");
    private static final Due due = new Due();

    public static void main(String[] args) throws IOException {
        List<String> rows = Files.readAllLines(Path.of("README.md"));
        example(between(rows, "```java", "```"));
        callTable(firstCells(rows, "| call |"));
        testTable(firstCells(rows, "| test |"));
        helpers(String.join("\n", rows));
        due.end();
    }

    /** Each call of the example answers what stands behind it, and every call of the face is in it. */
    private static void example(List<String> code) {
        SoftBench bench = new SoftBench();
        due.holds("a new object comes first", code.get(0).equals("SoftBench bench = new SoftBench();"));
        Set<String> seen = new TreeSet<>();
        for (String row : code.subList(1, code.size())) {
            Matcher m = CALL.matcher(row);
            boolean isCall = m.matches();
            due.holds("a call with its answer: " + row, isCall);
            if (isCall) {
                seen.add(m.group(1));
                due.is(row, Calls.ask(bench, m.group(1), numbers(m.group(2))), Long.parseLong(m.group(3)));
            }
        }
        due.holds("every call is shown: " + seen, seen.equals(new TreeSet<>(Calls.NAMES)));
    }

    private static void callTable(List<String> cells) {
        List<String> names = new ArrayList<>();
        for (String cell : cells) {
            names.addAll(names(cell));
        }
        due.holds("the table has the calls of the face in their order: " + names, names.equals(Calls.NAMES));
    }

    private static void testTable(List<String> cells) throws IOException {
        Set<String> told = new TreeSet<>();
        for (String cell : cells) {
            told.addAll(names(cell));
        }
        due.holds("the table has every test: " + told, told.equals(files("Test.java")));
    }

    private static void helpers(String text) throws IOException {
        for (String name : files(".java")) {
            due.holds(name + " is spoken of", text.contains("`" + name + "`"));
        }
    }

    private static Set<String> files(String end) throws IOException {
        try (Stream<Path> all = Files.list(Path.of("src/test/java"))) {
            return all.map(p -> p.getFileName().toString()).filter(n -> n.endsWith(end))
                .map(n -> n.replace(".java", "")).collect(Collectors.toCollection(TreeSet::new));
        }
    }

    private static List<String> names(String cell) {
        List<String> names = new ArrayList<>();
        Matcher m = NAME.matcher(cell);
        while (m.find()) {
            names.add(m.group(1));
        }
        return names;
    }

    private static int[] numbers(String list) {
        return Stream.of(list.split(",")).map(String::trim).filter(n -> !n.isEmpty()).mapToInt(Integer::parseInt).toArray();
    }

    private static List<String> between(List<String> rows, String first, String last) {
        List<String> rest = rows.subList(rows.indexOf(first) + 1, rows.size());
        return rest.subList(0, rest.indexOf(last));
    }

    /** The first cells of the table that begins so, without its head. */
    private static List<String> firstCells(List<String> rows, String head) {
        List<String> cells = new ArrayList<>();
        boolean inside = false;
        for (String row : rows) {
            inside = row.startsWith(head) || inside && row.startsWith("|");
            if (inside && !row.startsWith(head) && !row.startsWith("|---")) {
                cells.add(row.split("\\|")[1]);
            }
        }
        return cells;
    }
}
