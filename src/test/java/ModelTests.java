import java.util.Random;
import java.util.TreeMap;

/** Long runs of random calls (always the same ones), each answered by the class and by the model. */
public final class ModelTests {
    private static final int RUNS = 500, CALLS = 512;
    private static final String[] CALLED = {
        "row", "set", "copy", "drop", "feed", "heap", "fault", "hours", "light", "water", "rake", "swap",
        "wind", "undo", "thing", "place", "ahead", "later", "when", "dead", "kindle", "spare", "laying",
        "fits", "rain", "drawn", "image", "restore", "kind", "as", "ask", "trace", "count", "status"};
    // how often each is drawn; what changes the heap often enough to keep a fire going
    private static final int[] WEIGHTS = {
        8, 20, 30, 3, 8, 6, 3, 20, 60, 8, 16, 16,
        10, 24, 40, 6, 20, 14, 30, 8, 20, 20, 10,
        12, 20, 12, 4, 16, 6, 14, 14, 16, 24, 16};

    private final Due due = new Due();
    private final Random random = new Random(1118);
    private final TreeMap<String, TreeMap<Integer, Integer>> seen = new TreeMap<>();
    private BonfireHeaps heaps;
    private Model model;
    private int called;
    private String last;

    public static void main(String[] args) {
        ModelTests tests = new ModelTests();
        for (int run = 0; run < RUNS && tests.due.wrongSoFar() == 0; run++) {
            tests.oneRun(run);
        }
        tests.everyAnswerWasSeen();
        if (args.length > 1) {
            tests.seen.forEach((call, answers) -> System.out.println(call + " " + answers));
        }
        tests.due.end("ModelTests");
    }

    private void oneRun(int run) {
        heaps = new BonfireHeaps();
        model = new Model();
        called = 0;
        if (random.nextInt(8) != 0) {
            feedText(goodText());
            call(5, 0, 0, 0, 0, 0);
            call(26, 0, 0, 0, 0, 0);
        }
        int sort = random.nextInt(30);
        if (sort == 0) {
            manyHours();
        }
        while (called < CALLS && due.wrongSoFar() == 0) {
            int which = sort == 1 && random.nextInt(3) != 0 ? 4 : drawnCall();
            if (which == 5 && random.nextInt(4) != 0) {
                feedText(random.nextInt(3) == 0 ? goodText() : spoiled(goodText()));
            }
            if (which == 23 && random.nextInt(4) != 0) {
                tellTruth();
            } else {
                call(which, argument(which, 0), argument(which, 1), argument(which, 2),
                    argument(which, 3), argument(which, 4));
            }
        }
        if (due.wrongSoFar() != 0) {
            System.out.println("in run " + run + ", call " + called + ", behind " + last);
        }
    }

    private void manyHours() {
        while (called < CALLS - 20) {
            boolean near = model.count(2) > 9999 - 24;
            call(random.nextInt(60) == 0 ? 13 : 7, near ? random.nextInt(24) : 24, 0, 0, 0, 0);
        }
    }

    private int drawnCall() {
        int sum = 0;
        for (int weight : WEIGHTS) {
            sum += weight;
        }
        int drawn = random.nextInt(sum);
        for (int i = 0; ; i++) {
            drawn -= WEIGHTS[i];
            if (drawn < 0) {
                return i;
            }
        }
    }

    private String goodText() {
        StringBuilder text = new StringBuilder(random.nextBoolean() ? "b0;" : "b1;");
        int things = 1 + random.nextInt(random.nextInt(6) == 0 ? 9 : 8);
        boolean dry = random.nextInt(4) != 0;
        String sorts = random.nextInt(3) == 0 ? "sgldi" : "sssggglldi";
        for (int i = 0; i < things; i++) {
            int wet = dry ? Math.max(0, random.nextInt(8) - 4) : random.nextInt(21);
            text.append(sorts.charAt(random.nextInt(sorts.length()))).append(1 + random.nextInt(30))
                .append(',').append(wet).append(';');
        }
        return text.toString();
    }

    private String spoiled(String text) {
        StringBuilder spoiled = new StringBuilder(text);
        for (int i = random.nextInt(3); i >= 0; i--) {
            int at = random.nextInt(spoiled.length() + 1);
            String other = "bsgldix,;0123456789 A";
            char sign = random.nextInt(10) == 0 ? (char) random.nextInt(256)
                : other.charAt(random.nextInt(other.length()));
            int how = random.nextInt(4);
            if (how == 0) {
                spoiled.insert(at, sign);
            } else if (how == 1 && at < spoiled.length()) {
                spoiled.setCharAt(at, sign);
            } else if (how == 2 && at < spoiled.length()) {
                spoiled.deleteCharAt(at);
            } else if (random.nextInt(3) == 0) {
                spoiled.setLength(at);
            }
        }
        return spoiled.toString();
    }

    private void feedText(String text) {
        for (int i = 0; i < text.length() && called < CALLS; i++) {
            call(4, text.charAt(i), 0, 0, 0, 0);
        }
    }

    /** A row is told as some thing will burn, often, so that fits() has something to find. */
    private void tellTruth() {
        int thing = someThing();
        int n = 1 + random.nextInt(6);
        call(0, 7, random.nextInt(3), n + random.nextInt(3), 0, 0);
        for (int h = 0; h < n; h++) {
            int told = model.ahead(thing, h + 1, 0);
            call(1, 7, h, told + (random.nextInt(30) == 0 ? 1 : 0), 0, 0);
        }
        for (int what = 0; what < 4; what++) {
            call(23, thing, 7, 0, n, what);
        }
    }

    private int someThing() {
        return random.nextInt(30) == 0 ? 8 : random.nextInt(Math.max(1, model.count(1)));
    }

    private int argument(int which, int i) {
        int r = random.nextInt(60);
        if (r == 0) {
            return random.nextInt();
        }
        if (r == 1) {
            return new int[] {-1, 8, 61, 31, 41, 256, Integer.MIN_VALUE, Integer.MAX_VALUE}[random.nextInt(8)];
        }
        String name = CALLED[which];
        switch (name) {
            case "row": return i == 0 ? random.nextInt(8) : i == 1 ? random.nextInt(4) : random.nextInt(45) - 2;
            case "set": return i == 0 ? random.nextInt(8) : i == 1 ? random.nextInt(30)
                : random.nextInt(1 << random.nextInt(31)) - 100;
            case "copy": return i == 0 || i == 2 ? random.nextInt(9) : random.nextInt(7) - 1;
            case "feed": return random.nextInt(260) - 2;
            case "hours": return random.nextInt(4) == 0 ? random.nextInt(27) - 1 : 1 + random.nextInt(4);
            case "water": return i == 0 ? someThing() : random.nextInt(22);
            case "rake": return i == 0 ? someThing() : random.nextInt(2);
            case "thing": return i == 0 ? someThing() : random.nextInt(8);
            case "ahead": return i == 0 ? someThing() : i == 1 ? random.nextInt(62) : random.nextInt(2);
            case "later": return i == 0 ? random.nextInt(62) : random.nextInt(2);
            case "when": case "ask": return i == 0 ? someThing() : random.nextInt(2);
            case "dead": return random.nextInt(3);
            case "kindle": return i == 0 ? 1 << someThing() | random.nextInt(3) / 2 << someThing() : i == 1 ? random.nextInt(62)
                : random.nextInt(2);
            case "spare": return i == 0 ? someThing() : random.nextInt(32);
            case "laying": return i == 0 ? random.nextInt(32) : random.nextInt(2);
            case "fits": return i == 0 ? someThing() : i == 1 ? random.nextInt(8)
                : i == 2 ? random.nextInt(8) - 1 : i == 3 ? random.nextInt(14) : random.nextInt(5);
            case "rain": return i == 0 ? someThing() : i == 1 ? random.nextInt(62)
                : i == 2 ? random.nextInt(12) : random.nextInt(2);
            case "drawn": return i == 0 ? random.nextInt(62) : i == 1 ? random.nextInt(1 << random.nextInt(21))
                : random.nextInt(2);
            case "image": return 1 + random.nextInt(2);
            case "restore": return random.nextInt(3);
            case "as": return i == 0 ? someThing() : random.nextInt(7);
            case "trace": return random.nextInt(9) - 1;
            case "count": return random.nextInt(11);
            case "light": case "swap": case "kind": return someThing();
            default: return random.nextInt(9);
        }
    }

    private void call(int which, int a, int b, int c, int d, int e) {
        if (called >= CALLS) {
            return;
        }
        called++;
        int got = ofHeaps(CALLED[which], a, b, c, d, e);
        int want = ofModel(CALLED[which], a, b, c, d, e);
        last = CALLED[which] + "(" + a + ", " + b + ", " + c + ", " + d + ", " + e + ")";
        due.is(last, got, want);
        seen.computeIfAbsent(CALLED[which], k -> new TreeMap<>()).merge(Math.min(want, 0), 1, Integer::sum);
    }

    private int ofHeaps(String name, int a, int b, int c, int d, int e) {
        switch (name) {
            case "row": return heaps.row(a, b, c);
            case "set": return heaps.set(a, b, c);
            case "copy": return heaps.copy(a, b, c, d, e);
            case "drop": return heaps.drop(a);
            case "feed": return heaps.feed(a);
            case "heap": return heaps.heap();
            case "fault": return heaps.fault();
            case "hours": return heaps.hours(a);
            case "light": return heaps.light(a);
            case "water": return heaps.water(a, b);
            case "rake": return heaps.rake(a, b);
            case "swap": return heaps.swap(a, b);
            case "wind": return heaps.wind();
            case "undo": return heaps.undo();
            case "thing": return heaps.thing(a, b);
            case "place": return heaps.place(a);
            case "ahead": return heaps.ahead(a, b, c);
            case "later": return heaps.later(a, b);
            case "when": return heaps.when(a, b);
            case "dead": return heaps.dead(a);
            case "kindle": return heaps.kindle(a, b, c);
            case "spare": return heaps.spare(a, b);
            case "laying": return heaps.laying(a, b);
            case "fits": return heaps.fits(a, b, c, d, e);
            case "rain": return heaps.rain(a, b, c, d);
            case "drawn": return heaps.drawn(a, b, c);
            case "image": return heaps.image(a);
            case "restore": return heaps.restore(a);
            case "kind": return heaps.kind(a);
            case "as": return heaps.as(a, b);
            case "ask": return heaps.ask(a, b);
            case "trace": return heaps.trace(a);
            case "count": return heaps.count(a);
            default: return heaps.status();
        }
    }

    private int ofModel(String name, int a, int b, int c, int d, int e) {
        switch (name) {
            case "row": return model.row(a, b, c);
            case "set": return model.set(a, b, c);
            case "copy": return model.copy(a, b, c, d, e);
            case "drop": return model.drop(a);
            case "feed": return model.feed(a);
            case "heap": return model.heap();
            case "fault": return model.fault();
            case "hours": return model.hours(a);
            case "light": return model.light(a);
            case "water": return model.water(a, b);
            case "rake": return model.rake(a, b);
            case "swap": return model.swap(a, b);
            case "wind": return model.wind();
            case "undo": return model.undo();
            case "thing": return model.thing(a, b);
            case "place": return model.place(a);
            case "ahead": return model.ahead(a, b, c);
            case "later": return model.later(a, b);
            case "when": return model.when(a, b);
            case "dead": return model.dead(a);
            case "kindle": return model.kindle(a, b, c);
            case "spare": return model.spare(a, b);
            case "laying": return model.laying(a, b);
            case "fits": return model.fits(a, b, c, d, e);
            case "rain": return model.rain(a, b, c, d);
            case "drawn": return model.drawn(a, b, c);
            case "image": return model.image(a);
            case "restore": return model.restore(a);
            case "kind": return model.kind(a);
            case "as": return model.as(a, b);
            case "ask": return model.ask(a, b);
            case "trace": return model.trace(a);
            case "count": return model.count(a);
            default: return model.status();
        }
    }

    /** A run of answers that never refuses, or never finds, would prove little. */
    private void everyAnswerWasSeen() {
        if (due.wrongSoFar() != 0) {
            return;
        }
        sawAll("row", 0, -1000001, -1000014);
        sawAll("set", 0, -1000001, -1000011, -1000012);
        sawAll("copy", 0, -1000001, -1000011, -1000012, -1000015);
        sawAll("drop", 0, -1000001, -1000011);
        sawAll("feed", 0, -1000001, -1000003);
        sawAll("heap", 0, -1000100, -1000101, -1000104, -1000106, -1000108);
        sawAll("hours", 0, -1000001, -1000002, -1000003);
        sawAll("light", 0, -1000001, -1000002);
        sawAll("water", 0, -1000001, -1000002);
        sawAll("rake", 0, -1000001, -1000002);
        sawAll("swap", 0, -1000001);
        sawAll("wind", 0, -1000002);
        sawAll("undo", 0, -1000002);
        sawAll("when", 0, -1000000, -1000001);
        sawAll("dead", 0, -1000001, -1000002);
        sawAll("kindle", 0, -1000000, -1000001, -1000002);
        sawAll("spare", 0, -1000000, -1000001, -1000002);
        sawAll("laying", 0, -1000000, -1000001, -1000002);
        sawAll("fits", 0, -1000001, -1000011, -1000012);
        sawAll("rain", 0, -1000001);
        sawAll("drawn", 0, -1000001, -1000002);
        sawAll("image", 0, -1000001, -1000002);
        sawAll("restore", 0, -1000001, -1000002);
        sawAll("as", 0, -1000001, -1000013);
        sawAll("trace", 0, -1000000);
    }

    private void sawAll(String name, int... answers) {
        for (int answer : answers) {
            boolean was = seen.containsKey(name) && seen.get(name).containsKey(answer);
            due.holds(name + " never answered " + answer + " in all runs", was);
        }
    }
}
