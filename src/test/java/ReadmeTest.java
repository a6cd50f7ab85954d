import java.io.IOException;
import java.net.URL;
import java.net.URLClassLoader;
import java.nio.file.Files;
import java.nio.file.Path;
import java.util.ArrayList;
import java.util.List;
import java.util.Map;
import java.util.Set;
import java.util.TreeMap;
import java.util.TreeSet;
import java.util.regex.Matcher;
import java.util.regex.Pattern;
import java.util.stream.Collectors;
import java.util.stream.Stream;

/** README.md: what it says of a call's answer is what the class answers; it has each call and each test. */
public final class ReadmeTest {
    private static final Pattern EXAMPLES = Pattern.compile("(?ms)^```java\\n(.*?)^```$");
    private static final Pattern EXAMPLE = Pattern.compile("(x\\.\\w+\\(.*\\)); +// (-?\\d+)\\b.*");
    private static final Pattern CALL_ROW = Pattern.compile("(?m)^\\| `(\\w+)(\\([^`]*\\))` \\|[^|]*\\|([^|]*)\\|$");
    private static final Pattern TEST_ROW = Pattern.compile("(?m)^\\| (\\w+Test) \\|");
    private static final Pattern FACE = Pattern.compile("(?m)^    public (?:int|long) (\\w+\\(.*\\));$");
    private static final Map<String, Long> NAMED = Map.of("BAD", -1L, "STATE", -2L, "FULL", -3L, "NONE", -4L);
    /** Calls whose answer can be below 0 by itself; what they refuse is below all of that. */
    private static final Set<String> BY_ITSELF = Set.of("wide", "foot");

    public static void main(String[] args) throws Exception {
        String page = Files.readString(Path.of("README.md"));
        examples(page);
        faces(page);
        BoundariesTest.askAll();
        answersBelowNought(page);
        tests(page);
        Check.finish();
    }

    /** The blocks of Java as one class: a block of its own methods is put beside the others, which become one method each. */
    private static void examples(String page) throws Exception {
        Check.about("README.md's examples");
        List<String> calls = new ArrayList<>();
        List<Long> due = new ArrayList<>();
        StringBuilder source = new StringBuilder("public final class Examples {\n");
        StringBuilder all = new StringBuilder();
        int blocks = 0;
        Matcher block = EXAMPLES.matcher(page);
        while (block.find()) {
            if (block.group(1).startsWith("static ")) {
                source.append(block.group(1));
                continue;
            }
            source.append("static void block").append(blocks).append("(java.util.List<Long> got) {\n");
            block.group(1).lines().forEach(line -> source.append(statement(line, calls, due)).append('\n'));
            source.append("}\n");
            all.append("block").append(blocks).append("(got);\n");
            blocks++;
        }
        source.append("public static void all(java.util.List<Long> got) {\n").append(all).append("}\n}\n");
        List<Long> got = run(source.toString());
        Check.due("answers of all examples", got.size(), due.size());
        for (int i = 0; i < Math.min(got.size(), due.size()); i++) {
            Check.due(calls.get(i), got.get(i), due.get(i));
        }
    }

    private static String statement(String line, List<String> calls, List<Long> due) {
        Matcher example = EXAMPLE.matcher(line);
        if (!example.matches()) {
            Check.due("'" + line + "' has no answer", line.startsWith("x.") ? 1 : 0, 0);
            return line;
        }
        calls.add(example.group(1));
        due.add(Long.parseLong(example.group(2)));
        return "got.add((long) " + example.group(1) + ");";
    }

    private static List<Long> run(String source) throws Exception {
        Path directory = Files.createTempDirectory("readme");
        Path file = directory.resolve("Examples.java");
        List<Long> got = new ArrayList<>();
        try {
            Files.writeString(file, source);
            int refused = new ProcessBuilder("javac", "--release", "17", "-cp", System.getProperty("java.class.path"),
                    "-d", directory.toString(), file.toString()).inheritIO().start().waitFor();
            Check.due("the examples do not compile", refused, 0);
            if (refused == 0) {
                try (URLClassLoader loader = new URLClassLoader(new URL[] {directory.toUri().toURL()})) {
                    loader.loadClass("Examples").getMethod("all", List.class).invoke(null, got);
                }
            }
        } finally {
            try (Stream<Path> files = Files.list(directory)) {
                for (Path left : files.toList()) {
                    Files.delete(left);
                }
            }
            Files.delete(directory);
        }
        return got;
    }

    /** Each call of the document's face stands in one row. */
    private static void faces(String page) throws IOException {
        Check.about("README.md's tables");
        List<String> rows = CALL_ROW.matcher(page).results().map(row -> row.group(1) + row.group(2)).toList();
        List<String> wanted = FACE.matcher(Files.readString(Path.of("../shared/DOC.md"))).results().map(m -> m.group(1)).toList();
        Check.due("calls of the document", wanted.size(), 40);
        Check.due("rows", rows.size(), wanted.size());
        for (String call : wanted) {
            Check.due(call + " has a row", rows.contains(call) ? 1 : 0, 1);
        }
    }

    /** The answers below 0 that were seen in all boundary tests are those that the row of the call names. */
    private static void answersBelowNought(String page) {
        Check.about("README.md's tables");
        Map<String, Set<Long>> named = new TreeMap<>();
        Matcher row = CALL_ROW.matcher(page);
        while (row.find()) {
            named.put(row.group(1), numbersOf(row.group(1), row.group(3)));
        }
        for (Map.Entry<String, Set<Long>> call : named.entrySet()) {
            Set<Long> seen = new TreeSet<>(Run.belowNought(call.getKey()));
            if (BY_ITSELF.contains(call.getKey())) {
                Check.due(call.getKey() + " was below 0 by itself", seen.removeIf(v -> v > Check.LONG_BAD) ? 1 : 0, 1);
            }
            for (long v : seen) {
                Check.due(call.getKey() + " answered " + v + " and its row names it", call.getValue().contains(v) ? 1 : 0, 1);
            }
            for (long v : call.getValue()) {
                Check.due(call.getKey() + " never answered " + v, seen.contains(v) ? 1 : 0, 1);
            }
        }
    }

    /** What stands in `..`: an answer by its name, a number, or all numbers from one to another. */
    private static Set<Long> numbersOf(String call, String cell) {
        Set<Long> numbers = new TreeSet<>();
        for (String word : Pattern.compile("`([^`]*)`").matcher(cell).results().map(m -> m.group(1)).toList()) {
            if (NAMED.containsKey(word)) {
                numbers.add(NAMED.get(word));
            } else if (word.matches("-\\d+")) {
                numbers.add(Long.parseLong(word));
            } else if (word.matches("-\\d+ to -\\d+")) {
                String[] ends = word.split(" to ");
                for (long v = Long.parseLong(ends[0]); v >= Long.parseLong(ends[1]); v--) {
                    numbers.add(v);
                }
            } else {
                Check.due(call + " has '" + word + "' among its answers below 0", 0, 1);
            }
        }
        return numbers;
    }

    private static void tests(String page) throws IOException {
        Check.about("README.md's table of tests");
        Set<String> rows = TEST_ROW.matcher(page).results().map(m -> m.group(1)).collect(Collectors.toSet());
        try (Stream<Path> files = Files.list(Path.of("src/test/java"))) {
            for (Path file : files.toList()) {
                String name = file.getFileName().toString().replace(".java", "");
                boolean test = name.endsWith("Test");
                Check.due(name + " has a row", rows.contains(name) ? 1 : 0, test ? 1 : 0);
            }
        }
    }
}
