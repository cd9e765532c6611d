import java.io.ByteArrayOutputStream;
import java.io.IOException;
import java.io.PrintStream;
import java.net.URL;
import java.net.URLClassLoader;
import java.nio.charset.StandardCharsets;
import java.nio.file.Files;
import java.nio.file.Path;
import java.util.ArrayList;
import java.util.Comparator;
import java.util.List;
import java.util.regex.Matcher;
import java.util.regex.Pattern;
import java.util.stream.Stream;
import javax.tools.ToolProvider;

/** README.md: its example, compiled and run as it says, and what its tables tell. */
public final class ReadmeTests {
    private static final Pattern ANSWER = Pattern.compile("System\\.out\\.println\\((.*)\\);\\s+// (-?\\w+): .+");
    private static final Pattern FACE = Pattern.compile("(?m)^    public int (\\w+)\\(([^)]*)\\) \\{$");
    private static final Pattern REFUSAL = Pattern.compile("(?m)^\\| (-\\d+) \\| `?([A-Z]+)`?(?:, finding (\\d))? \\|");
    private static final Pattern SORT = Pattern.compile(
        "(?m)^\\| `(\\w)` [^|]*\\| (\\d) [A-Z]+ \\| ([^|]*) \\| ([^|]*) \\| ([^|]*) ?\\|$");
    private static final Pattern BODY = Pattern.compile("(\\d+): ");

    private final Due due = new Due();
    private final Path root;
    private final String readme;

    private ReadmeTests(Path root) throws IOException {
        this.root = root;
        readme = Files.readString(root.resolve("README.md"));
    }

    public static void main(String[] args) throws Exception {
        ReadmeTests tests = new ReadmeTests(Path.of(args.length > 0 ? args[0] : "."));
        tests.example();
        tests.calls();
        tests.refusals();
        tests.kinds();
        tests.bodies();
        tests.due.end("ReadmeTests");
    }

    // ---- the example

    private void example() throws Exception {
        String code = between("```java\n", "```");
        List<String> calls = new ArrayList<>();
        List<Integer> wanted = new ArrayList<>();
        for (String line : code.split("\n")) {
            Matcher told = ANSWER.matcher(line.trim());
            due.holds("no answer is told in: " + line, told.matches() || !line.contains("println"));
            if (told.matches()) {
                calls.add(told.group(1));
                wanted.add(numberOf(told.group(2)));
            }
        }
        List<String> said = run(code);
        due.holds("the example tells no answers", !calls.isEmpty());
        due.is("lines of the example", said.size(), calls.size());
        for (int i = 0; i < Math.min(said.size(), calls.size()); i++) {
            due.is("README.md: " + calls.get(i), Integer.parseInt(said.get(i)), wanted.get(i));
        }
    }

    private String between(String start, String end) {
        int from = readme.indexOf(start) + start.length();
        int to = readme.indexOf(end, from);
        boolean there = from >= start.length() && to >= from;
        due.holds("README.md has no " + start.trim(), there);
        return there ? readme.substring(from, to) : "";
    }

    private static int numberOf(String told) {
        switch (told) {
            case "NONE":
                return BonfireHeaps.NONE;
            case "BAD":
                return BonfireHeaps.BAD;
            case "STATE":
                return BonfireHeaps.STATE;
            case "FULL":
                return BonfireHeaps.FULL;
            default:
                return Integer.parseInt(told);
        }
    }

    private List<String> run(String code) throws Exception {
        Path dir = Files.createTempDirectory("readme");
        try {
            Path file = Files.writeString(dir.resolve("Example.java"), code);
            int ended = ToolProvider.getSystemJavaCompiler().run(null, null, null, "--release", "17", "-d",
                dir.toString(), root.resolve("src/main/java/BonfireHeaps.java").toString(), file.toString());
            due.is("javac of the example", ended, 0);
            return ended == 0 ? said(dir) : List.of();
        } finally {
            remove(dir);
        }
    }

    private static List<String> said(Path dir) throws Exception {
        PrintStream before = System.out;
        ByteArrayOutputStream said = new ByteArrayOutputStream();
        URL[] where = {dir.toUri().toURL()};
        try (URLClassLoader loader = new URLClassLoader(where, ClassLoader.getPlatformClassLoader())) {
            System.setOut(new PrintStream(said, true, StandardCharsets.UTF_8));
            loader.loadClass("Example").getMethod("main", String[].class).invoke(null, (Object) new String[0]);
        } finally {
            System.setOut(before);
        }
        return said.toString(StandardCharsets.UTF_8).lines().toList();
    }

    private static void remove(Path dir) throws IOException {
        try (Stream<Path> files = Files.walk(dir)) {
            for (Path file : files.sorted(Comparator.reverseOrder()).toList()) {
                Files.delete(file);
            }
        }
    }

    // ---- the tables

    private void calls() throws IOException {
        Matcher face = FACE.matcher(Files.readString(root.resolve("src/main/java/BonfireHeaps.java")));
        int seen = 0;
        while (face.find()) {
            seen++;
            String call = "| `" + face.group(1) + "(" + face.group(2).replace("int ", "") + ")` |";
            int at = readme.indexOf(call);
            due.holds("README.md does not tell of " + call, at >= 0);
            due.holds("README.md tells twice of " + call, at < 0 || readme.indexOf(call, at + 1) < 0);
        }
        due.is("calls of the face", seen, 34);
    }

    private void refusals() {
        Matcher told = REFUSAL.matcher(readme);
        int constants = 0;
        int findings = 0;
        while (told.find()) {
            int answer = Integer.parseInt(told.group(1));
            String name = told.group(2);
            if (told.group(3) == null) {
                constants++;
                due.is(name, numberOf(name), answer);
            } else {
                findings++;
                BonfireHeaps x = withRows();
                due.is(name, find(x, name), answer);
                due.is("status() of " + name, x.status(), Integer.parseInt(told.group(3)));
            }
        }
        due.is("constants told", constants, 4);
        due.is("findings told", findings, 5);
    }

    private static BonfireHeaps withRows() {
        BonfireHeaps x = reading("b0;s1,0;");
        x.row(0, 0, 1);
        x.row(1, 1, 1);
        return x;
    }

    private static int find(BonfireHeaps x, String name) {
        switch (name) {
            case "NULL":
                return x.drop(2);
            case "PLACE":
                return x.set(0, 1, 0);
            case "KIND":
                return x.as(0, 5);
            case "SIZE":
                return x.row(0, 0, -1);
            default:
                return x.copy(0, 0, 1, 0, 1);
        }
    }

    private static BonfireHeaps reading(String text) {
        BonfireHeaps x = new BonfireHeaps();
        for (char letter : text.toCharArray()) {
            x.feed(letter);
        }
        x.heap();
        return x;
    }

    private void kinds() {
        Matcher told = SORT.matcher(readme);
        int seen = 0;
        while (told.find()) {
            seen++;
            String sort = told.group(1);
            int kind = Integer.parseInt(told.group(2));
            BonfireHeaps x = reading("b1;" + sort + "9,0;");
            due.is("KIND of " + sort, x.kind(0), kind);
            for (int other = 0; other <= 5; other++) {
                boolean is = other == kind || told.group(3).matches("(.*\\D)?" + other + "(\\D.*)?");
                due.is("as(" + other + ") of " + sort, x.as(0, other), is ? 0 : -1000013);
            }
            boolean burns = x.light(0) == 1;
            x.hours(1);
            due.holds("whether " + sort + " burns", burns == told.group(4).matches("\\d"));
            if (burns) {
                due.is("STUFF less of " + sort, 9 - x.thing(0, 0), Integer.parseInt(told.group(4)));
                String smoke = told.group(5).trim();
                due.is("SMOKE of " + sort, x.count(7), smoke.equals("none") ? 0 : Integer.parseInt(smoke));
            }
        }
        due.is("SORTS told", seen, 5);
    }

    /** The body that begins is the one in the column of the kind, else the nearest it also is. */
    private void bodies() {
        BonfireHeaps x = reading("b0;s9,2;g9,2;l9,2;d9,2;i9,2;");
        String[] asks = {"\n| SIZE |", "\n| MARK |"};
        int[] nearest = {-1, 0, 1, 1, 0, 4};
        for (int what = 0; what < asks.length; what++) {
            String[] columns = between(asks[what], "|\n").split("\\|", -1);
            due.is("columns of" + asks[what], columns.length, 6);
            for (int kind = 1; kind <= 5 && columns.length == 6; kind++) {
                boolean isTold = BODY.matcher(columns[kind]).find();
                x.ask(kind - 1, what);
                due.is("the BODY of KIND " + kind + " for " + asks[what].trim(), x.trace(0),
                    bodyIn(columns[isTold ? kind : nearest[kind]]));
            }
        }
    }

    private static int bodyIn(String column) {
        Matcher body = BODY.matcher(column);
        return body.find() ? Integer.parseInt(body.group(1)) : -1;
    }
}
