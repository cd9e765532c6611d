import java.util.List;
import java.util.function.Supplier;

/**
 * What the tests of the document's boundaries share: a test for each sentence, whose name begins
 * with the number of its promise, and refused calls, of which nothing may be left but status().
 */
abstract class Edges {
    static final int NONE = -1000000, BAD = -1000001, STATE = -1000002, FULL = -1000003;
    static final int NULL = -1000011, PLACE = -1000012, KIND = -1000013, SIZE = -1000014, STORE = -1000015;
    static final int LEAST = Integer.MIN_VALUE, MOST = Integer.MAX_VALUE;

    interface Call {
        int on(BonfireHeaps x);
    }

    BonfireHeaps x;
    private String name = "";
    private int wrong = 0;
    private int passed = 0;
    private int failed = 0;

    void test(String told, Runnable body) {
        name = told;
        wrong = 0;
        body.run();
        if (wrong == 0) {
            passed++;
        } else {
            failed++;
        }
    }

    void end() {
        System.out.println(getClass().getSimpleName() + ": " + passed + " passed, " + failed + " failed");
        if (failed != 0 || passed == 0) {
            System.exit(1);
        }
    }

    void due(String call, int got, int want) {
        if (got != want) {
            tell(call + " answered " + got + ", due is " + want);
        }
    }

    private void tell(String fault) {
        wrong++;
        if (wrong <= 5) {
            System.out.println(name + ": " + fault);
        }
    }

    static void feed(BonfireHeaps x, String text) {
        for (int i = 0; i < text.length(); i++) {
            x.feed(text.charAt(i));
        }
    }

    static BonfireHeaps reading(String text) {
        BonfireHeaps x = new BonfireHeaps();
        feed(x, text);
        x.heap();
        return x;
    }

    void fresh(String text) {
        x = new BonfireHeaps();
        feed(x, text);
        int things = x.heap();
        if (things < 1) {
            tell(text + " is not read: " + things);
        }
    }

    static void tell(BonfireHeaps x, int row, int lane, int... items) {
        x.row(row, lane, items.length);
        for (int i = 0; i < items.length; i++) {
            x.set(row, i, items[i]);
        }
    }

    /**
     * Nothing in it is as it was at first: THINGS 0 to 5 (a stick that is LIT, a green one, a letter
     * that is WET, a door that is OUT, one of iron, a stick), HOUR 2, WIND up, SMOKE, 6 ACTS, both
     * IMAGES, ROWS 0, 1, 2, 7 of all LANES (2 is empty), THE TRACE, FAULT 3, a good text on the tape,
     * status() 5.
     */
    static BonfireHeaps full() {
        return full("b0;l7,2;g3,1;");
    }

    static BonfireHeaps full(String onTape) {
        BonfireHeaps x = reading("b0;l1,0;l1,0;l1,0;l1,0;l1,0;l1,0;l1,0;l1,0;l");
        feed(x, "b0;d3,3;s5,0;");
        x.heap();
        x.image(1);
        feed(x, "b0;s9,0;g6,3;l9,1;d12,7;i4,2;s5,0;");
        x.heap();
        x.light(0);
        x.hours(2);
        x.image(0);
        x.rake(3, 1);
        x.swap(1, 5);
        x.wind();
        tell(x, 0, 0, 5, 0, 26);
        tell(x, 1, 1, 7, 8);
        x.row(2, 2, 0);
        tell(x, 7, 2, 9);
        x.ask(1, 0);
        feed(x, onTape);
        x.copy(0, 0, 1, 0, 1);
        return x;
    }

    /** The same without a HEAP; status() is 2, FAULT 2. */
    static BonfireHeaps bare() {
        BonfireHeaps x = reading("b2");
        tell(x, 0, 0, 5, 0, 26);
        tell(x, 1, 1, 7, 8);
        x.row(2, 2, 0);
        feed(x, "b0;l7,2;g3,1;");
        x.set(0, 3, 1);
        return x;
    }

    void refusedInFull(int answer, String call, Call made) {
        refused(Edges::full, answer, call, made);
    }

    void refusedInBare(int answer, String call, Call made) {
        refused(Edges::bare, answer, call + ", no HEAP", made);
    }

    void refused(Supplier<BonfireHeaps> start, int answer, String call, Call made) {
        int finding = -1000010 - answer;
        for (Look look : Look.values()) {
            BonfireHeaps asked = start.get();
            BonfireHeaps twin = start.get();
            due(call, made.on(asked), answer);
            boolean isFound = finding >= 1 && finding <= 5;
            due("status() behind " + call, asked.status(), isFound ? finding : twin.status());
            same(call, look.of(asked), look.of(twin));
        }
    }

    void same(String call, List<String> got, List<String> want) {
        if (got.equals(want)) {
            return;
        }
        int at = 0;
        while (at < got.size() && at < want.size() && got.get(at).equals(want.get(at))) {
            at++;
        }
        tell("behind " + call + " there is " + (at < got.size() ? got.get(at) : "no more")
            + ", due is " + (at < want.size() ? want.get(at) : "no more"));
    }
}
