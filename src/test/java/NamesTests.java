import java.io.IOException;
import java.nio.file.Files;
import java.nio.file.Path;
import java.util.List;
import java.util.regex.Pattern;
import java.util.stream.Stream;

/** For each promise of the document there is at least one test that bears its number and its name. */
public final class NamesTests {
    private static final String[] PROMISES = {
        "a new object", "row", "set", "copy", "drop", "feed", "heap", "fault", "hours", "light", "water", "rake",
        "swap", "wind", "undo", "thing", "place", "ahead", "later", "when", "dead", "kindle", "spare", "laying",
        "fits", "rain", "drawn", "image", "restore", "kind", "as", "ask", "trace", "count", "status"};

    public static void main(String[] args) throws IOException {
        Due due = new Due();
        String tests = edgeTests(Path.of(args.length > 0 ? args[0] : "."));
        due.is("promises", PROMISES.length, 35);
        for (int i = 0; i < PROMISES.length; i++) {
            String name = (i + 1) + " " + PROMISES[i] + ": ";
            due.holds("no test is named " + name, Pattern.compile("test\\(\\s*\"" + name).matcher(tests).find());
        }
        due.end("NamesTests");
    }

    private static String edgeTests(Path root) throws IOException {
        StringBuilder all = new StringBuilder();
        try (Stream<Path> files = Files.list(root.resolve("src/test/java"))) {
            List<Path> edges = files.filter(file -> file.toString().endsWith("EdgeTests.java")).toList();
            for (Path file : edges) {
                all.append(Files.readString(file));
            }
        }
        return all.toString();
    }
}
