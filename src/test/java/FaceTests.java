import java.io.IOException;
import java.lang.reflect.Constructor;
import java.lang.reflect.Field;
import java.lang.reflect.Method;
import java.lang.reflect.Modifier;
import java.nio.file.Files;
import java.nio.file.Path;
import java.util.Map;
import java.util.Set;
import java.util.TreeMap;
import java.util.TreeSet;
import java.util.regex.Matcher;
import java.util.regex.Pattern;

/** The public face of the document, and those rules of LANGUAGE.md that can be seen from outside. */
public final class FaceTests {
    private static final String[] FACE = {
        "row 3", "set 3", "copy 5", "drop 1", "feed 1", "heap 0", "fault 0", "hours 1", "light 1", "water 2",
        "rake 2", "swap 2", "wind 0", "undo 0", "thing 2", "place 1", "ahead 3", "later 2", "when 2", "dead 1",
        "kindle 3", "spare 2", "laying 2", "fits 5", "rain 4", "drawn 3", "image 1", "restore 1", "kind 1",
        "as 2", "ask 2", "trace 1", "count 1", "status 0"};
    private static final String[] WORDS = {
        "throw", "throws", "try", "catch", "finally", "synchronized", "assert", "import", "package", "hashCode",
        "toString", "equals", "System.out", "Math.random", "Thread", "Object", "var", "yield"};

    private final Due due = new Due();

    public static void main(String[] args) throws IOException {
        FaceTests tests = new FaceTests();
        tests.constants();
        tests.methods();
        tests.classesInside();
        Path root = Path.of(args.length > 0 ? args[0] : ".");
        tests.source(Files.readString(root.resolve("src/main/java/BonfireHeaps.java")));
        tests.due.end("FaceTests");
    }

    private void constants() {
        Map<String, Integer> told = new TreeMap<>(Map.of("NONE", -1000000, "BAD", -1000001, "STATE", -1000002,
            "FULL", -1000003));
        due.is("NONE", BonfireHeaps.NONE, -1000000);
        due.is("BAD", BonfireHeaps.BAD, -1000001);
        due.is("STATE", BonfireHeaps.STATE, -1000002);
        due.is("FULL", BonfireHeaps.FULL, -1000003);
        for (Field field : BonfireHeaps.class.getDeclaredFields()) {
            boolean isTold = told.containsKey(field.getName());
            int wanted = isTold ? Modifier.PUBLIC | Modifier.STATIC | Modifier.FINAL : Modifier.PRIVATE;
            due.holds("field " + field.getName(), (field.getModifiers() & wanted) == wanted);
        }
    }

    private void methods() {
        int modifiers = BonfireHeaps.class.getModifiers();
        due.holds("the class is public and final", Modifier.isPublic(modifiers) && Modifier.isFinal(modifiers));
        Constructor<?>[] made = BonfireHeaps.class.getDeclaredConstructors();
        due.holds("one constructor", made.length == 1 && made[0].getParameterCount() == 0
            && Modifier.isPublic(made[0].getModifiers()));
        Set<String> names = names();
        Set<String> seen = new TreeSet<>();
        for (Method method : BonfireHeaps.class.getDeclaredMethods()) {
            if (Modifier.isPrivate(method.getModifiers())) {
                due.holds("private " + method.getName(), !names.contains(method.getName()));
            } else {
                due.holds("public " + method.getName(), method.getModifiers() == Modifier.PUBLIC
                    && method.getReturnType() == int.class);
                for (Class<?> taken : method.getParameterTypes()) {
                    due.holds(method.getName() + " takes " + taken, taken == int.class);
                }
                seen.add(method.getName() + " " + method.getParameterCount());
            }
        }
        due.holds("the face is " + seen, seen.equals(new TreeSet<>(Set.of(FACE))));
    }

    private static Set<String> names() {
        Set<String> names = new TreeSet<>();
        for (String told : FACE) {
            names.add(told.substring(0, told.indexOf(' ')));
        }
        return names;
    }

    private void classesInside() {
        Class<?>[] inside = BonfireHeaps.class.getDeclaredClasses();
        due.holds("some twelve classes", inside.length < 12);
        Set<String> names = names();
        for (Class<?> one : inside) {
            String name = one.getSimpleName();
            int modifiers = one.getModifiers();
            due.holds(name + " is static, and not public", Modifier.isStatic(modifiers)
                && !Modifier.isPublic(modifiers) && !Modifier.isProtected(modifiers));
            int fields = 0;
            for (Field field : one.getDeclaredFields()) {
                boolean isStatic = Modifier.isStatic(field.getModifiers());
                fields += isStatic ? 0 : 1;
                due.holds(name + "." + field.getName() + " is final", !isStatic
                    || Modifier.isFinal(field.getModifiers()));
            }
            due.holds(name + " has some twenty fields", fields <= 20);
            for (Method method : one.getDeclaredMethods()) {
                due.holds(name + "." + method.getName() + " bears a name of the face",
                    !names.contains(method.getName()));
                due.holds(name + "." + method.getName() + " has seven parameters",
                    method.getParameterCount() <= 7);
            }
        }
    }

    private void source(String text) {
        due.holds("a sign that is none of 1 to 127", text.chars().allMatch(sign -> sign > 0 && sign < 128));
        String code = text.replaceAll("(?s)/\\*.*?\\*/", " ").replaceAll("//[^\n]*", " ")
            .replaceAll("\"[^\"\n]*\"", "\"\"").replaceAll("'[^']'", "' '");
        for (String word : WORDS) {
            boolean there = Pattern.compile("\\b" + Pattern.quote(word) + "\\b").matcher(code).find();
            due.holds("the word " + word, !there);
        }
        due.holds("a lambda", !code.contains("->"));
        due.holds("a method reference", !code.contains("::"));
        due.holds("an annotation", !code.contains("@"));
        due.holds("a name that ends in Exact", !Pattern.compile("\\w+Exact\\b").matcher(code).find());
        shortMethods(text);
        headings(text);
    }

    /** The document says what the interface says ahead of which calls. */
    private void headings(String text) {
        Map<String, String> told = Map.of("row", "rows", "feed", "heaps, acts", "ahead", "foretold",
            "kind", "asked");
        StringBuilder wanted = new StringBuilder();
        for (String name : FACE) {
            String call = name.substring(0, name.indexOf(' '));
            wanted.append(told.containsKey(call) ? "---- " + told.get(call) + "\n" : "").append(call).append('\n');
        }
        StringBuilder got = new StringBuilder();
        Matcher lines = Pattern.compile("(?m)^    (?:// (---- .*)|public int (\\w+)\\(.*)$").matcher(text);
        while (lines.find()) {
            got.append(lines.group(1) != null ? lines.group(1) : lines.group(2)).append('\n');
        }
        due.holds("the calls and what stands ahead of them: " + got, got.toString().equals(wanted.toString()));
    }

    /** A method ends at the first brace that stands as far in as its head. */
    private void shortMethods(String text) {
        Matcher heads = Pattern.compile("(?m)^( +)[\\w\\[\\] ]*?(\\w+)\\([^;{]*\\) \\{$").matcher(text);
        while (heads.find()) {
            int end = text.indexOf("\n" + heads.group(1) + "}", heads.end());
            long lines = text.substring(heads.start(), end).lines().count();
            due.holds(heads.group(2) + " has " + lines + " lines", lines <= 60);
        }
    }
}
