/** Each promise of the document by itself: ordinary calls, the edges it names, wrong numbers. */
public final class PromiseTests {
    private static final int NONE = -1000000, BAD = -1000001, STATE = -1000002, FULL = -1000003;
    private static final int NULL = -1000011, PLACE = -1000012, KIND = -1000013, SIZE = -1000014,
        STORE = -1000015;
    // a stick, a green one, a letter, a door, one of iron
    private static final String ONE_OF_EACH = "b1;s8,1;g6,3;l9,4;d12,7;i4,2;";

    private final Due due = new Due();
    private BonfireHeaps x;

    public static void main(String[] args) {
        PromiseTests tests = new PromiseTests();
        tests.newObject();
        tests.rows();
        tests.tapeAndHeap();
        tests.acts();
        tests.looks();
        tests.foretold();
        tests.searches();
        tests.chances();
        tests.asked();
        tests.due.end("PromiseTests");
    }

    private void due(String call, int got, int want) {
        due.is(call, got, want);
    }

    private int read(String text) {
        for (int i = 0; i < text.length(); i++) {
            x.feed(text.charAt(i));
        }
        return x.heap();
    }

    private void fresh(String text) {
        x = new BonfireHeaps();
        int things = read(text);
        due.holds(text + " is not read: " + things, things > 0);
    }

    private void faulty(String text, int number, int place) {
        x = new BonfireHeaps();
        read("b1;d3,4;");
        due("1: heap() of " + text, read(text), -1000100 - place);
        due("fault() of " + text, x.fault(), number);
        due("count(1) behind " + text, x.count(1), 1);
        due("kind(0) behind " + text, x.kind(0), 4);
        due("count(9) behind " + text, x.count(9), 0);
    }

    // ---- 1

    private void newObject() {
        x = new BonfireHeaps();
        for (int what = 0; what <= 9; what++) {
            due("1: count(" + what + ")", x.count(what), 0);
        }
        due("1: status()", x.status(), 0);
        due("1: fault()", x.fault(), 0);
        due("1: undo()", x.undo(), STATE);
        due("1: thing(0, 0)", x.thing(0, 0), BAD);
        due("1: trace(0)", x.trace(0), NONE);
        due("1: restore(1)", x.restore(1), STATE);
        due("1: set(7, 0, 0)", x.set(7, 0, 0), NULL);
    }

    // ---- 2 to 5, and 35

    private void rows() {
        row();
        set();
        copy();
        drop();
        status();
    }

    private void row() {
        x = new BonfireHeaps();
        due("2: row(0, 0, 0)", x.row(0, 0, 0), 0);
        due("2: row(7, 2, 40)", x.row(7, 2, 40), 40);
        due("2: count(0)", x.count(0), 2);
        due("2: row(7, 2, 41)", x.row(7, 2, 41), BAD);
        due("2: row(8, 0, 1)", x.row(8, 0, 1), BAD);
        due("2: row(-1, 0, 1)", x.row(-1, 0, 1), BAD);
        due("2: row(0, 3, 1)", x.row(0, 3, 1), BAD);
        due("2: row(0, -1, 1)", x.row(0, -1, 1), BAD);
        due("2: row(0, 0, -1)", x.row(0, 0, -1), SIZE);
        due("2: row(0, 0, least)", x.row(0, 0, Integer.MIN_VALUE), SIZE);
        due("2: row(0, 3, -1)", x.row(0, 3, -1), BAD);
        due("2: set(7, 39, 5)", x.set(7, 39, 5), 5);
        due("2: row(7, 2, -1) keeps the row", x.row(7, 2, -1), SIZE);
        due("2: drop(7)", x.drop(7), 40);
        x.row(7, 2, 3);
        x.set(7, 0, 9);
        x.set(7, 1, 9);
        due("2: row(7, 2, 2) in place of it", x.row(7, 2, 2), 2);
        read("b1;l4,0;");
        x.light(0);
        due("2: ITEMS are 0 at first", x.fits(0, 7, 0, 2, 0), 1 << 3);
        x.set(7, 1, 2);
        due("2: and then what is set", x.fits(0, 7, 1, 1, 0), 1 << 1);
    }

    private void set() {
        x = new BonfireHeaps();
        x.row(0, 0, 2);
        x.row(1, 1, 2);
        x.row(2, 2, 2);
        due("3: set(0, 0, 127)", x.set(0, 0, 127), 127);
        due("3: set(0, 0, 128)", x.set(0, 0, 128), -128);
        due("3: set(0, 1, -129)", x.set(0, 1, -129), 127);
        due("3: set(0, 1, 256)", x.set(0, 1, 256), 0);
        due("3: set(1, 0, 32767)", x.set(1, 0, 32767), 32767);
        due("3: set(1, 0, 32768)", x.set(1, 0, 32768), -32768);
        due("3: set(2, 1, least)", x.set(2, 1, Integer.MIN_VALUE), Integer.MIN_VALUE);
        due("3: set(0, 2, 0)", x.set(0, 2, 0), PLACE);
        due("3: set(0, -1, 0)", x.set(0, -1, 0), PLACE);
        due("3: set(0, most, 0)", x.set(0, Integer.MAX_VALUE, 0), PLACE);
        due("3: set(3, 0, 0)", x.set(3, 0, 0), NULL);
        due("3: set(3, -1, 0)", x.set(3, -1, 0), NULL);
        due("3: set(8, 0, 0)", x.set(8, 0, 0), BAD);
        due("3: set(-1, 0, 0)", x.set(-1, 0, 0), BAD);
    }

    private void copy() {
        x = new BonfireHeaps();
        x.row(0, 2, 4);
        x.row(1, 2, 2);
        x.row(2, 0, 4);
        due("4: copy(0, 0, 1, 0, 2)", x.copy(0, 0, 1, 0, 2), 2);
        due("4: copy(0, 4, 1, 2, 0)", x.copy(0, 4, 1, 2, 0), 0);
        due("4: copy(0, 5, 1, 0, 0)", x.copy(0, 5, 1, 0, 0), PLACE);
        due("4: copy(0, 0, 1, 3, 0)", x.copy(0, 0, 1, 3, 0), PLACE);
        due("4: copy(0, 0, 1, 0, 3)", x.copy(0, 0, 1, 0, 3), PLACE);
        due("4: copy(1, 1, 0, 0, 2)", x.copy(1, 1, 0, 0, 2), PLACE);
        due("4: copy(0, -1, 1, 0, 1)", x.copy(0, -1, 1, 0, 1), PLACE);
        due("4: copy(0, 0, 1, -1, 1)", x.copy(0, 0, 1, -1, 1), PLACE);
        due("4: copy(0, 0, 1, 0, -1)", x.copy(0, 0, 1, 0, -1), PLACE);
        due("4: copy(0, 1, 1, 1, most)", x.copy(0, 1, 1, 1, Integer.MAX_VALUE), PLACE);
        due("4: copy(0, most, 1, 0, 1)", x.copy(0, Integer.MAX_VALUE, 1, 0, 1), PLACE);
        due("4: copy(0, -1, 2, 0, 1)", x.copy(0, -1, 2, 0, 1), STORE);
        due("4: copy(2, 0, 3, -1, 1)", x.copy(2, 0, 3, -1, 1), NULL);
        due("4: copy(3, 0, 2, 0, 1)", x.copy(3, 0, 2, 0, 1), NULL);
        due("4: copy(8, 0, 2, 0, 1)", x.copy(8, 0, 2, 0, 1), BAD);
        due("4: copy(3, 0, -1, 0, 1)", x.copy(3, 0, -1, 0, 1), BAD);
        overlapping();
    }

    /** Told 9, 7, 5, moved on by one within the row: as they were ahead, so 9, 9, 7, 5. */
    private void overlapping() {
        fresh("b1;s11,0;");
        x.light(0);
        x.row(0, 2, 4);
        x.set(0, 0, 9);
        x.set(0, 1, 7);
        x.set(0, 2, 5);
        due("4: copy(0, 0, 0, 1, 3)", x.copy(0, 0, 0, 1, 3), 3);
        due("4: fits(0, 0, 1, 3, 2)", x.fits(0, 0, 1, 3, 2), 1 << 11);
        due("4: fits(0, 0, 0, 1, 2)", x.fits(0, 0, 0, 1, 2), 1 << 11);
        due("4: copy(0, 1, 0, 0, 3)", x.copy(0, 1, 0, 0, 3), 3);
        due("4: fits(0, 0, 0, 3, 2)", x.fits(0, 0, 0, 3, 2), 1 << 11);
    }

    private void drop() {
        x = new BonfireHeaps();
        x.row(3, 1, 17);
        due("5: drop(3)", x.drop(3), 17);
        due("5: count(0)", x.count(0), 0);
        due("5: drop(3) again", x.drop(3), NULL);
        due("5: set(3, 0, 0)", x.set(3, 0, 0), NULL);
        due("5: drop(8)", x.drop(8), BAD);
        due("5: drop(-1)", x.drop(-1), BAD);
    }

    private void status() {
        fresh("b1;s3,0;");
        due("35: status() ahead of any", x.status(), 0);
        x.drop(0);
        due("35: NULL", x.status(), 1);
        x.row(0, 0, 41);
        x.set(8, 0, 0);
        x.copy(0, 0, 9, 0, 0);
        x.drop(-1);
        x.fits(1, 0, 0, 1, 0);
        x.as(1, 0);
        x.hours(0);
        x.light(0);
        x.heap();
        due("35: it stays behind BAD, and calls without a ROW", x.status(), 1);
        x.row(0, 0, 2);
        due("35: none", x.status(), 0);
        x.set(0, 2, 0);
        due("35: PLACE", x.status(), 2);
        x.set(0, 0, 0);
        due("35: none behind set", x.status(), 0);
        x.as(0, 2);
        due("35: KIND", x.status(), 3);
        x.as(0, 1);
        due("35: none behind as", x.status(), 0);
        x.row(1, 0, -1);
        due("35: SIZE", x.status(), 4);
        x.fits(0, 0, 0, 1, 0);
        due("35: none behind fits", x.status(), 0);
        x.row(1, 1, 2);
        x.copy(0, 0, 1, 0, 0);
        due("35: STORE", x.status(), 5);
        x.copy(0, 0, 0, 0, 1);
        due("35: none behind copy", x.status(), 0);
        x.fits(0, 2, 0, 1, 0);
        due("35: NULL of fits", x.status(), 1);
        x.drop(0);
        due("35: none behind drop", x.status(), 0);
    }

    // ---- 6 to 8

    private void tapeAndHeap() {
        feed();
        heap();
        faults();
    }

    private void feed() {
        x = new BonfireHeaps();
        due("6: feed(0)", x.feed(0), 1);
        due("6: feed(255)", x.feed(255), 2);
        due("6: feed(256)", x.feed(256), BAD);
        due("6: feed(-1)", x.feed(-1), BAD);
        due("6: count(9)", x.count(9), 2);
        for (int i = 3; i <= 90; i++) {
            due("6: feed", x.feed('a'), i);
        }
        due("6: the 91st", x.feed('a'), FULL);
        due("6: BAD ahead of FULL", x.feed(256), BAD);
        due("6: the tape is read whole", x.heap(), -1000100);
        due("6: and empty then", x.feed('a'), 1);
    }

    private void heap() {
        x = new BonfireHeaps();
        due("7: one thing", read("b0;s1,0;"), 1);
        due("7: its WIND", x.count(3), 0);
        due("7: eight", read("b1;s30,20;s1,1;s1,1;s1,1;s1,1;s1,1;s1,1;i9,9;"), 8);
        due("7: its WIND", x.count(3), 1);
        due("7: STUFF", x.thing(0, 0), 30);
        due("7: WET", x.thing(0, 1), 20);
        due("7: the last", x.kind(7), 5);
        due("7: figures", read("b01;g05,00;"), 1);
        due("7: STUFF", x.thing(0, 0), 5);
        x.light(0);
        x.hours(2);
        x.rake(0, 1);
        due("7: SMOKE ahead", x.count(7), 6);
        due("7: another", read("b1;l7,0;s1,2;"), 2);
        for (int what = 4; what <= 8; what++) {
            due("7: count(" + what + ") anew", x.count(what), 0);
        }
        due("7: HOUR anew", x.count(2), 0);
        due("7: undo()", x.undo(), STATE);
        due("7: thing(0, 4)", x.thing(0, 4), 0);
        x.swap(0, 1);
        read("b1;l7,0;s1,2;");
        due("7: PLACES anew", x.thing(0, 2), 0);
        x.wind();
        x.light(0);
        x.hours(1);
        read("b1;l7,0;s1,2,");
        due("7: a FAULT leaves STUFF", x.thing(0, 0), 3);
        due("7: and HOUR", x.count(2), 1);
        due("7: and ACTS", x.count(8), 3);
        due("7: that are undone", x.undo(), 2);
    }

    private void faults() {
        faulty("", 1, 0);
        faulty("b", 1, 1);
        faulty("b0", 1, 2);
        faulty("b0;", 1, 3);
        faulty("B0;s1,0;", 1, 0);
        faulty("s1,0;", 1, 0);
        faulty("1;s1,0;", 1, 0);
        faulty("b2;s1,0;", 2, 1);
        faulty("b10;s1,0;", 2, 1);
        faulty("b000;s1,0;", 1, 1);
        faulty("b;s1,0;", 1, 1);
        faulty("b 0;s1,0;", 1, 1);
        faulty("b0;b0;", 1, 3);
        faulty("b0;x1,0;", 1, 3);
        faulty("b0;s0,0;", 2, 4);
        faulty("b0;s31,0;", 2, 4);
        faulty("b0;s100,0;", 1, 4);
        faulty("b0;s0012,0;", 1, 4);
        faulty("b0;s,0;", 1, 4);
        faulty("b0;s1;", 1, 5);
        faulty("b0;s12s", 1, 6);
        faulty("b0;s1,;", 1, 6);
        faulty("b0;s1,21;", 2, 6);
        faulty("b0;s1,021;", 1, 6);
        faulty("b0;s1,20", 1, 8);
        faulty("b0;s1,20,", 1, 8);
        faulty("b0;s1,20;;", 1, 9);
        faulty("b0;s1,20; ", 1, 9);
        faulty("b0;s1,20;1", 1, 9);
        faulty("b0;s1,20;\u00e9", 1, 9);
        String eight = "b0;s1,0;s1,0;s1,0;s1,0;s1,0;s1,0;s1,0;s1,0;";
        faulty(eight + "s1,0;", 3, 43);
        faulty(eight + "i", 3, 43);
        faulty(eight + "x1,0;", 1, 43);
        faulty(eight + "b", 1, 43);
        x = new BonfireHeaps();
        due("8: fault() before one", x.fault(), 0);
        read(eight);
        read("b2;");
        due("8: fault()", x.fault(), 2);
        due("8: a good text", read("b1;s1,0;"), 1);
        due("8: the latest stays", x.fault(), 2);
        due("8: not of the heap before", x.place(1), BAD);
    }

    // ---- 9 to 15

    private void acts() {
        hours();
        burning();
        heat();
        heatOfTheFirst();
        light();
        water();
        rake();
        swap();
        wind();
        undo();
    }

    private void hours() {
        x = new BonfireHeaps();
        due("9: no HEAP", x.hours(1), STATE);
        due("9: no HEAP ahead of BAD", x.hours(0), STATE);
        fresh("b0;s4,0;s4,0;");
        due("9: hours(0)", x.hours(0), BAD);
        due("9: hours(25)", x.hours(25), BAD);
        due("9: hours(-1)", x.hours(-1), BAD);
        x.light(0);
        due("9: first", x.hours(1), 3);
        due("9: second", x.hours(1), 2);
        due("9: third", x.hours(1), 0);
        due("9: SMOKE", x.count(7), 4);
        due("9: ASH", x.count(6), 3);
        due("9: HOUR", x.count(2), 3);
        due("9: an ACT each", x.count(8), 4);
        due("9: hours(24)", x.hours(24), 0);
        due("9: 24 ACTS", x.count(8), 24);
        for (int i = 1; i <= 415; i++) {
            x.hours(24);
        }
        due("9: HOUR then", x.count(2), 9987);
        due("9: BAD ahead of FULL", x.hours(25), BAD);
        due("9: beyond", x.hours(13), FULL);
        due("9: HOUR stays", x.count(2), 9987);
        due("9: up to it", x.hours(12), 0);
        due("9: HOUR 9999", x.count(2), 9999);
        due("9: one more", x.hours(1), FULL);
    }

    private void burning() {
        fresh("b0;l9,0;g3,0;d5,0;s3,0;");
        x.light(0);
        due("9: the green one catches", x.hours(1), 3);
        due("9: a letter has 4 less", x.thing(0, 0), 5);
        due("9: and smokes not", x.count(7), 0);
        due("9: both burn", x.hours(1), 3);
        due("9: the letter", x.thing(0, 0), 1);
        due("9: a green one has 1 less", x.thing(1, 0), 2);
        due("9: and smokes by 3", x.count(7), 3);
        due("9: the letter is ASH", x.hours(1), 2);
        due("9: the stick 2 away has 1 only", x.thing(3, 5), 0);
        due("9: the door has STUFF", x.thing(2, 0), 5);
        due("9: the green one is ASH", x.hours(1), 0);
        due("9: SMOKE", x.count(7), 9);
        x.light(3);
        due("9: a stick has 2 less", x.hours(1) * 100 + x.thing(3, 0), 801);
        due("9: 0 at least", x.hours(1) * 100 + x.thing(3, 0), 0);
        due("9: SMOKE", x.count(7), 11);

        fresh("b0;g9,0;s9,3;");
        x.light(0);
        due("9: WET 3 with HEAT 2", x.hours(1) * 100 + x.thing(1, 1), 101);
        due("9: WET 0 at least", x.hours(1) * 100 + x.thing(1, 1), 100);
        due("9: LIT the HOUR behind", x.hours(1), 3);

        fresh("b1;s9,0;d1,0;s9,2;");
        x.light(0);
        x.hours(2);
        due("9: dried by the wind alone", x.thing(2, 1), 0);
        due("9: HEAT 1 does not light", x.hours(1), 1);

        fresh("b1;s9,0;i1,0;s9,1;");
        x.light(0);
        due("9: with iron HEAT 2", x.hours(1), 1);
        due("9: lights", x.hours(1), 5);
    }

    private void heat() {
        fresh("b1;s9,0;i5,0;s9,5;s9,5;");
        due("16: HEAT of nothing", x.thing(1, 5), 0);
        x.light(0);
        due("16: beside", x.thing(1, 5), 2);
        due("16: wind and iron", x.thing(2, 5), 2);
        due("16: out of reach", x.thing(3, 5), 0);
        due("16: iron beside has the THING itself beside", x.thing(0, 5), 1);
        x.wind();
        due("16: iron alone", x.thing(2, 5), 1);
        x.rake(1, 1);
        due("16: iron that is OUT gives none", x.thing(2, 5), 0);
        due("16: HEAT of one that is OUT", x.thing(1, 5), 0);
        x.rake(1, 0);
        x.swap(1, 3);
        due("16: in its new PLACE", x.thing(3, 5), 2);

        fresh("b0;s9,1;s9,0;s9,1;s9,1;s9,1;s9,0;");
        x.light(1);
        x.light(5);
        due("16: from one side", x.thing(0, 5), 2);
        due("16: the other side", x.thing(2, 5), 2);
        due("16: wind down", x.thing(3, 5), 1);
        x.wind();
        due("16: wind up", x.thing(3, 5), 1);
        due("16: beside the other", x.thing(4, 5), 2);

        fresh("b1;s9,0;i9,1;s9,0;i9,1;s9,0;i9,1;");
        x.light(0);
        x.light(4);
        due("16: two of iron", x.thing(2, 5), 3);
        x.light(2);
        due("16: between two", x.thing(3, 5), 4);
        due("16: two of iron, wind", x.thing(4, 5), 3);
        due("16: the last", x.thing(5, 5), 2);
    }

    private void heatOfTheFirst() {
        fresh("b0;i9,1;s9,0;s9,0;");
        x.swap(0, 1);
        x.light(1);
        due("16: the first is of iron", x.thing(2, 5), 1);
    }

    private void light() {
        fresh("b0;s4,0;g4,1;d4,0;i4,0;l1,0;");
        due("10: light(4)", x.light(4), 16);
        due("10: light(0)", x.light(0), 17);
        due("10: it is LIT", x.light(0), STATE);
        due("10: it is WET", x.light(1), STATE);
        due("10: a door", x.light(2), STATE);
        due("10: iron", x.light(3), STATE);
        due("10: none such", x.light(5), BAD);
        due("10: none such", x.light(-1), BAD);
        x.hours(2);
        due("10: no STUFF", x.light(4), STATE);
        x.rake(0, 1);
        due("10: it is OUT", x.light(0), STATE);
        due("10: ACTS are those that were done", x.count(8), 5);
    }

    private void water() {
        fresh("b0;s4,0;g4,15;");
        x.light(0);
        due("11: water(0, 1)", x.water(0, 1), 1);
        due("11: not LIT any more", x.count(4), 0);
        due("11: water(1, 5)", x.water(1, 5), 20);
        due("11: 20 at most", x.water(1, 20), 20);
        due("11: water(0, 0)", x.water(0, 0), BAD);
        due("11: water(0, 21)", x.water(0, 21), BAD);
        due("11: water(2, 1)", x.water(2, 1), BAD);
        x.rake(0, 1);
        due("11: OUT", x.water(0, 1), STATE);
        due("11: BAD ahead of STATE", x.water(0, 0), BAD);
        due("11: WET stays", x.thing(0, 1), 1);
    }

    private void rake() {
        fresh("b0;s4,0;s4,0;s4,0;");
        x.light(1);
        due("12: it is not OUT", x.rake(1, 0), STATE);
        due("12: rake(1, 1)", x.rake(1, 1), 2);
        due("12: not LIT any more", x.count(4), 0);
        due("12: it is OUT", x.rake(1, 1), STATE);
        due("12: rake(2, 1)", x.rake(2, 1), 6);
        due("12: keeps its PLACE", x.place(1), 1);
        due("12: rake(1, 0)", x.rake(1, 0), 4);
        due("12: not LIT again", x.count(4), 0);
        due("12: rake(1, 2)", x.rake(1, 2), BAD);
        due("12: rake(1, -1)", x.rake(1, -1), BAD);
        due("12: rake(3, 1)", x.rake(3, 1), BAD);
        x.water(0, 4);
        x.rake(0, 1);
        x.light(1);
        x.hours(1);
        due("12: nothing comes to it", x.thing(0, 1), 4);
        due("12: nor to the other", x.thing(2, 3), 0);
    }

    private void swap() {
        fresh("b0;s4,0;s5,0;s6,0;");
        due("13: swap(0, 2)", x.swap(0, 2), 2);
        due("13: place(0)", x.place(0), 2);
        due("13: place(2)", x.place(2), 0);
        due("13: swap(1, 0)", x.swap(1, 0), 2);
        due("13: thing(0, 2)", x.thing(0, 2), 1);
        due("13: STUFF stays with the THING", x.thing(0, 0), 4);
        due("13: swap(0, 0)", x.swap(0, 0), BAD);
        due("13: swap(0, 3)", x.swap(0, 3), BAD);
        due("13: swap(-1, 0)", x.swap(-1, 0), BAD);
        x.rake(0, 1);
        due("13: one that is OUT, too", x.swap(0, 1), 2);
    }

    private void wind() {
        x = new BonfireHeaps();
        due("14: no HEAP", x.wind(), STATE);
        fresh("b0;s4,0;");
        due("14: wind()", x.wind(), 1);
        due("14: count(3)", x.count(3), 1);
        due("14: wind() again", x.wind(), 0);
        due("14: ACTS", x.count(8), 2);
    }

    private void undo() {
        fresh("b0;s4,0;g9,6;s4,0;");
        due("15: none", x.undo(), STATE);
        x.light(0);
        x.hours(1);
        x.water(0, 3);
        x.rake(1, 1);
        x.rake(1, 0);
        x.swap(0, 1);
        x.wind();
        due("15: the WIND", x.undo() * 10 + x.count(3), 60);
        due("15: the PLACES", x.undo() * 10 + x.thing(0, 2), 50);
        due("15: laid on", x.undo() * 10 + x.count(5), 42);
        due("15: raked OUT", x.undo() * 10 + x.count(5), 30);
        due("15: WET", x.undo() * 10 + x.thing(0, 1), 20);
        due("15: LIT again", x.count(4), 1);
        due("15: the HOUR", x.undo() * 10 + x.count(2), 10);
        due("15: STUFF", x.thing(0, 0), 4);
        due("15: WET", x.thing(1, 1), 6);
        due("15: SMOKE", x.count(7), 0);
        due("15: by hand", x.undo() * 10 + x.count(4), 0);
        due("15: none any more", x.undo(), STATE);
        for (int i = 0; i < 30; i++) {
            x.water(2, 1);
        }
        x.rake(2, 1);
        due("15: 24 are kept", x.count(8), 24);
        for (int left = 23; left >= 0; left--) {
            due("15: undo()", x.undo(), left);
        }
        due("15: the oldest are forgotten", x.thing(2, 1), 7);
        due("15: and none is left", x.undo(), STATE);
        fresh("b1;g9,0;s4,0;");
        x.light(0);
        x.hours(2);
        x.swap(0, 1);
        x.wind();
        x.rake(1, 1);
        x.hours(3);
        x.undo();
        due("15: HOUR", x.count(2), 4);
        due("15: SMOKE", x.count(7), 13);
        x.undo();
        x.undo();
        due("15: OUT", x.undo() * 10 + x.count(5), 50);
        due("15: WIND", x.undo() * 10 + x.count(3), 41);
        due("15: PLACES", x.undo() * 100 + x.thing(0, 2) * 10 + x.thing(1, 2), 301);
        due("15: HOUR", x.undo() * 10 + x.count(2), 21);
    }

    // ---- 16, 17, 34

    private void looks() {
        fresh(ONE_OF_EACH);
        due("16: STUFF", x.thing(3, 0), 12);
        due("16: WET", x.thing(3, 1), 7);
        due("16: PLACE", x.thing(3, 2), 3);
        due("16: LIT", x.thing(3, 3), 0);
        due("16: OUT", x.thing(3, 4), 0);
        due("16: ASH", x.thing(3, 6), 0);
        due("16: thing(0, 7)", x.thing(0, 7), BAD);
        due("16: thing(0, -1)", x.thing(0, -1), BAD);
        due("16: thing(5, 0)", x.thing(5, 0), BAD);
        due("17: place(4)", x.place(4), 4);
        due("17: place(5)", x.place(5), BAD);
        due("17: place(-1)", x.place(-1), BAD);
        x.rake(4, 1);
        due("16: OUT then", x.thing(4, 4), 1);
        fresh("b1;l4,0;s1,0;l3,0;");
        x.light(0);
        due("16: LIT then", x.thing(0, 3), 1);
        x.hours(1);
        due("16: ASH then", x.thing(0, 6), 1);
        due("34: ASH", x.count(6), 1);
        due("34: LIT", x.count(4), 2);
        x.rake(2, 1);
        x.feed('b');
        x.row(4, 0, 0);
        due("34: ROWS", x.count(0), 1);
        due("34: THINGS", x.count(1), 3);
        due("34: HOUR", x.count(2), 1);
        due("34: WIND", x.count(3), 1);
        due("34: OUT", x.count(5), 4);
        due("34: SMOKE", x.count(7), 0);
        x.hours(1);
        due("34: SMOKE then", x.count(7), 1);
        due("34: ACTS", x.count(8), 4);
        due("34: bytes", x.count(9), 1);
        due("34: count(10)", x.count(10), BAD);
        due("34: count(-1)", x.count(-1), BAD);
    }

    // ---- 18 to 21

    private void foretold() {
        fresh("b0;s8,0;g6,3;d4,9;");
        x.light(0);
        // hour by hour: the stick 6, 4, 2, 0; the green one dry behind 2, LIT behind 3, ASH behind 9
        due("18: ahead(0, 0, 0)", x.ahead(0, 0, 0), 8);
        due("18: ahead(0, 3, 0)", x.ahead(0, 3, 0), 2);
        due("18: ahead(1, 1, 1)", x.ahead(1, 1, 1), 1);
        due("18: ahead(1, 4, 0)", x.ahead(1, 4, 0), 5);
        due("18: ahead(2, 4, 1)", x.ahead(2, 4, 1), 7);
        due("18: ahead(2, 60, 1)", x.ahead(2, 60, 1), 0);
        due("18: ahead(0, 61, 0)", x.ahead(0, 61, 0), BAD);
        due("18: ahead(0, -1, 0)", x.ahead(0, -1, 0), BAD);
        due("18: ahead(0, 0, 2)", x.ahead(0, 0, 2), BAD);
        due("18: ahead(3, 0, 0)", x.ahead(3, 0, 0), BAD);
        due("19: later(0, 0)", x.later(0, 0), 1);
        due("19: later(3, 0)", x.later(3, 0), 3);
        due("19: later(4, 0)", x.later(4, 0), 2);
        due("19: later(4, 1)", x.later(4, 1), 7);
        due("19: later(60, 1)", x.later(60, 1), 22);
        due("19: later(61, 0)", x.later(61, 0), BAD);
        due("19: later(-1, 0)", x.later(-1, 0), BAD);
        due("19: later(0, 2)", x.later(0, 2), BAD);
        due("20: CAUGHT now", x.when(0, 0), 0);
        due("20: ASH", x.when(0, 1), 4);
        due("20: CAUGHT", x.when(1, 0), 3);
        due("20: ASH", x.when(1, 1), 9);
        due("20: never", x.when(2, 0), NONE);
        due("20: never", x.when(2, 1), NONE);
        due("20: when(0, 2)", x.when(0, 2), BAD);
        due("20: when(3, 0)", x.when(3, 0), BAD);
        due("21: DEAD", x.dead(0), 9);
        due("21: LEFT", x.dead(1), 4);
        due("21: dead(2)", x.dead(2), BAD);
        due("21: nothing changed", x.count(2) * 100 + x.thing(0, 0), 8);
        due("21: no ACT but the one", x.count(8), 1);
        x.hours(4);
        due("19: SMOKE so far, too", x.later(1, 1), 10);
        due("20: ASH is so", x.when(0, 1), 0);
        due("20: not LIT again", x.when(0, 0), NONE);
        x.rake(2, 1);
        due("21: LEFT but what is OUT", x.dead(1), 0);
        x.water(1, 1);
        due("21: DEAD now", x.dead(0), 0);
        due("21: LEFT now", x.dead(1), 2);
        fresh("b0;s8,3;l4,0;");
        due("21: LEFT, the first too", x.dead(1), 3);
        longFire();
        x = new BonfireHeaps();
        due("18: no HEAP", x.ahead(0, 0, 0), BAD);
        due("19: no HEAP", x.later(61, 0), STATE);
        due("20: no HEAP", x.when(0, 0), BAD);
        due("21: no HEAP", x.dead(5), STATE);
    }

    /** Greens of WET 20, each dried by the one before: 11 HOURS on to each, 30 to burn. */
    private void longFire() {
        fresh("b0;g30,0;g30,20;g30,20;g30,20;g30,20;g30,20;g30,20;g30,20;");
        x.light(0);
        due("20: CAUGHT", x.when(1, 0), 11);
        due("20: the last within 60", x.when(5, 0), 55);
        due("20: not within 60", x.when(6, 0), NONE);
        due("20: ASH within 60", x.when(2, 1), 52);
        due("20: ASH not within 60", x.when(3, 1), NONE);
        due("21: DEAD", x.dead(0), 107);
        due("21: LEFT", x.dead(1), 0);
        x.hours(3);
        due("20: within 60 from now", x.when(3, 1), 60);
    }

    // ---- 22 to 25

    private void searches() {
        kindle();
        spare();
        laying();
        fits();
    }

    private void kindle() {
        fresh("b0;s8,0;s8,0;d3,0;s8,0;g5,1;");
        due("22: nothing to do", x.kindle(0, 1, 0), 0);
        due("22: nothing to do", x.kindle(0, 1, 1), 0);
        due("22: one by hand", x.kindle(1, 4, 0), 1);
        due("22: that one", x.kindle(1, 4, 1), 1);
        due("22: too few HOURS", x.kindle(1, 3, 0), NONE);
        due("22: two within 4", x.kindle(3, 4, 1), 3);
        due("22: one within 5, the least", x.kindle(3, 5, 1), 1);
        due("22: across the door", x.kindle(9, 60, 1), 9);
        due("22: how many", x.kindle(9, 60, 0), 2);
        due("22: a WET one by another", x.kindle(16, 60, 1), 8);
        due("22: a WET one not by hand", x.kindle(16, 6, 1), NONE);
        due("22: just so", x.kindle(16, 7, 1), 8);
        due("22: a door never", x.kindle(4, 60, 0), NONE);
        due("22: kindle(32, 1, 0)", x.kindle(32, 1, 0), BAD);
        due("22: kindle(-1, 1, 0)", x.kindle(-1, 1, 0), BAD);
        due("22: kindle(1, 0, 0)", x.kindle(1, 0, 0), BAD);
        due("22: kindle(1, 61, 0)", x.kindle(1, 61, 0), BAD);
        due("22: kindle(1, 1, 2)", x.kindle(1, 1, 2), BAD);
        x.light(1);
        due("22: it burns already", x.kindle(3, 5, 1), 0);
        due("22: one more", x.kindle(3, 4, 1), 1);
        x.rake(0, 1);
        due("22: OUT", x.kindle(1, 60, 0), NONE);
        x.hours(4);
        due("22: ASH already", x.kindle(2, 1, 1), 0);
        x = new BonfireHeaps();
        due("22: no HEAP", x.kindle(-1, 0, 9), STATE);
        fresh("b0;l9,1;s9,0;l9,1;s9,0;l9,1;");
        due("22: of several the fewest", x.kindle(21, 60, 1), 2);
        due("22: all there are", x.kindle(31, 60, 1), 2);
        fresh("b0;l1,0;l1,0;l1,0;l1,0;l1,0;l1,0;l1,0;l1,0;");
        due("22: all by hand", x.kindle(255, 1, 1), 255);
        due("22: so many", x.kindle(255, 1, 0), 8);
        due("22: from the middle", x.kindle(255, 5, 1), 8);
    }

    private void spare() {
        fresh("b0;s8,0;g6,3;d4,9;s4,0;");
        due("23: no fire", x.spare(0, 30), 0);
        x.light(0);
        due("23: LIT now", x.spare(0, 30), 1);
        // the stick burns 4 HOURS: 8 of heat in all; LIT behind 3 with 3 of WET
        due("23: 2 HOURS", x.spare(1, 2), 0);
        due("23: 3 HOURS", x.spare(1, 3), 2);
        due("23: 4 HOURS", x.spare(1, 4), 4);
        due("23: for good", x.spare(1, 30), 4);
        due("23: a door", x.spare(2, 30), 0);
        due("23: spare(0, 0)", x.spare(0, 0), BAD);
        due("23: spare(0, 31)", x.spare(0, 31), BAD);
        due("23: spare(4, 1)", x.spare(4, 1), BAD);
        x.rake(3, 1);
        due("23: OUT", x.spare(3, 30), STATE);
        due("23: BAD ahead of it", x.spare(3, 31), BAD);
        x.hours(4);
        due("23: ASH", x.spare(0, 30), 0);
        fresh("b0;g30,0;s9,3;g30,0;");
        x.light(0);
        x.light(2);
        due("23: 4 of HEAT, 20 at most", x.spare(1, 30), NONE);
        due("23: 5 HOURS", x.spare(1, 5), 14);
        due("23: nothing changed", x.thing(1, 1), 3);
        due("23: 1 HOUR", x.spare(1, 1), 0);
        // HEAT 3 in the first HOUR, then 2: 19 behind 9 of them
        fresh("b1;l4,0;d1,0;s9,0;g30,0;");
        x.light(0);
        x.light(3);
        due("23: 10 HOURS by all the water", x.spare(2, 10), 20);
        due("23: 11 HOURS", x.spare(2, 11), NONE);
    }

    private void laying() {
        fresh("b0;s9,0;");
        due("24: there are not two", x.laying(1, 0), NONE);
        due("24: there are not two", x.laying(1, 1), NONE);
        due("24: BAD ahead of it", x.laying(0, 1), BAD);
        fresh("b0;s4,0;d9,0;d9,0;s4,0;");
        due("24: no fire, the first", x.laying(5, 0), 1);
        due("24: none", x.laying(5, 1), 0);
        x.light(0);
        due("24: the first by which two", x.laying(5, 0), 2);
        due("24: two", x.laying(5, 1), 2);
        due("24: too few HOURS", x.laying(2, 0), 1);
        due("24: one", x.laying(2, 1), 1);
        due("24: laying(31, 0)", x.laying(31, 0), BAD);
        due("24: laying(1, 2)", x.laying(1, 2), BAD);
        due("24: nothing changed", x.place(0), 0);
        fresh("b0;d9,0;s4,0;d9,0;d9,0;s4,0;");
        x.light(1);
        due("24: with the first", x.laying(5, 0), 4);
        x.swap(0, 2);
        x.rake(0, 1);
        due("24: one that is OUT, too", x.laying(5, 1), 2);
        fresh("b0;d9,0;d9,0;s4,0;d9,0;d9,0;s4,0;");
        x.light(2);
        due("24: without the first", x.laying(5, 0), 15);
        x = new BonfireHeaps();
        due("24: no HEAP", x.laying(0, 5), STATE);
    }

    private void tell(int row, int... items) {
        x.row(row, 2, items.length);
        for (int i = 0; i < items.length; i++) {
            x.set(row, i, items[i]);
        }
    }

    private void fits() {
        fresh("b0;s9,0;s9,1;d5,0;");
        x.light(0);
        // thing 1: LIT behind 2, then 7, 5
        tell(0, 9, 9, 7, 5);
        due("25: SORTS", x.fits(1, 0, 0, 4, 0), 1 << 1);
        due("25: SORTS by less", x.fits(1, 0, 0, 2, 0), 62);
        due("25: WETS", x.fits(1, 0, 0, 4, 1), 1 << 1 | 1 << 2);
        due("25: STUFFS", x.fits(1, 0, 0, 4, 2), 1 << 9);
        due("25: WINDS", x.fits(1, 0, 0, 4, 3), 3);
        tell(1, 7, 5);
        due("25: LIT now", x.fits(0, 1, 0, 2, 0), 1 << 1);
        due("25: LIT though WET", x.fits(0, 1, 0, 2, 1), (1 << 21) - 1);
        due("25: from i on", x.fits(0, 0, 2, 2, 0), 1 << 1);
        tell(2, 9, 9, 9);
        due("25: one that would not burn", x.fits(0, 2, 0, 3, 0), 1 << 4 | 1 << 5);
        tell(3, 0, 0);
        due("25: ASH by little STUFF", x.fits(0, 3, 0, 2, 2), 1 << 1 | 1 << 2);
        due("25: not told so", x.fits(2, 3, 0, 2, 2), 0);
        tell(3, 30);
        due("25: STUFF 30", x.fits(2, 3, 0, 1, 2), 1 << 30);
        due("25: nothing changed", x.kind(0) * 10000 + x.thing(0, 0) * 100 + x.count(4), 10901);
        windsAndSorts();
        wrongFits();
    }

    private void windsAndSorts() {
        // thing 3 is lit by the iron beside it and the wind together: the wind must be up
        fresh("b1;d1,0;s9,0;i5,0;s9,0;");
        x.light(1);
        tell(0, 9, 7);
        due("25: WIND up alone", x.fits(3, 0, 0, 2, 3), 2);
        // neither a door nor iron burns; any other would be lit behind 1
        fresh("b1;s9,0;d5,0;s9,0;");
        x.light(0);
        tell(0, 5, 5);
        due("25: a door", x.fits(1, 0, 0, 2, 0), 1 << 4 | 1 << 5);
        x.row(1, 0, 12);
        due("25: 12 HOURS", x.fits(1, 1, 0, 12, 0), 0);
    }

    private void wrongFits() {
        due("25: THING", x.fits(3, 1, 0, 1, 0), BAD);
        due("25: ROW", x.fits(0, 8, 0, 1, 0), BAD);
        due("25: ROW", x.fits(0, -1, 0, 1, 0), BAD);
        due("25: n 0", x.fits(0, 1, 0, 0, 0), BAD);
        due("25: n 13", x.fits(0, 1, 0, 13, 0), BAD);
        due("25: what 4", x.fits(0, 1, 0, 1, 4), BAD);
        due("25: what -1", x.fits(0, 1, 0, 1, -1), BAD);
        due("25: NULL", x.fits(0, 5, -1, 1, 0), NULL);
        due("25: BAD ahead of NULL", x.fits(0, 5, 0, 0, 0), BAD);
        due("25: PLACE", x.fits(0, 1, -1, 1, 0), PLACE);
        due("25: PLACE", x.fits(0, 1, 12, 1, 0), PLACE);
        due("25: PLACE", x.fits(0, 1, 1, 12, 0), PLACE);
        due("25: PLACE", x.fits(0, 1, Integer.MAX_VALUE, 12, 0), PLACE);
    }

    // ---- 26 to 29

    private void chances() {
        rain();
        drawn();
        images();
    }

    private void fraction(String what, int thing, int n, int c, int above, int below) {
        due("26: " + what + ", above", x.rain(thing, n, c, 0), above);
        due("26: " + what + ", below", x.rain(thing, n, c, 1), below);
    }

    private void rain() {
        fresh("b0;s8,0;s4,0;d5,0;");
        x.light(0);
        fraction("it is not watered itself", 0, 4, 3, 7, 10);
        fraction("too few HOURS", 0, 3, 3, 0, 1);
        fraction("never a door", 2, 60, 3, 0, 1);
        // thing 1 catches behind 1 if dry; with WET 3 behind 3: ASH behind 3, or 5
        fraction("both dry", 1, 3, 3, 49, 100);
        fraction("the first dry", 1, 5, 3, 7, 10);
        fraction("sure of none", 1, 5, 0, 1, 1);
        fraction("sure of rain", 1, 60, 10, 0, 1);
        fraction("half", 1, 3, 5, 1, 4);
        fraction("now", 0, 0, 5, 0, 1);
        due("26: n -1", x.rain(0, -1, 5, 0), BAD);
        due("26: n 61", x.rain(0, 61, 5, 0), BAD);
        due("26: c -1", x.rain(0, 1, -1, 0), BAD);
        due("26: c 11", x.rain(0, 1, 11, 0), BAD);
        due("26: what 2", x.rain(0, 1, 1, 2), BAD);
        due("26: thing 3", x.rain(3, 1, 1, 0), BAD);
        due("26: nothing changed", x.thing(0, 1) * 10 + x.count(4), 1);
        x.hours(4);
        fraction("ASH now", 0, 0, 10, 1, 1);
        x = new BonfireHeaps();
        due("26: no HEAP", x.rain(0, 0, 0, 0), BAD);
        // eight that all must stay dry: 9 of 10 to the 8th
        fresh("b0;l1,0;l1,0;l1,0;l1,0;l1,0;l1,0;l1,0;l1,0;");
        x.light(0);
        fraction("all dry", 7, 60, 1, 43046721, 100000000);
    }

    private void drawn() {
        // seed 1: X is 16807, 282475249, 1622650073, 984943658, 1144108930, 470211272, ..
        fresh("b0;s8,0;");
        due("27: no HOURS", x.drawn(0, 1, 0), 0);
        due("27: three odd ones", x.drawn(3, 1, 1), 0);
        due("27: the fourth lights, and it burns", x.drawn(4, 1, 1), 1);
        // the fifth is even, it is LIT: by 5 leaves 0, watered by 1144108930 rest 4 = 2
        due("27: the fifth waters", x.drawn(5, 1, 1), 1);
        due("27: the sixth cannot light it", x.drawn(6, 1, 1), 1);
        due("27: nothing changed", x.thing(0, 0) * 100 + x.thing(0, 1), 800);
        due("27: n -1", x.drawn(-1, 1, 0), BAD);
        due("27: n 61", x.drawn(61, 1, 0), BAD);
        due("27: seed 0", x.drawn(1, 0, 0), BAD);
        due("27: seed 1000000", x.drawn(1, 1000000, 0), BAD);
        due("27: the last seed", x.drawn(0, 999999, 0), 0);
        due("27: what 2", x.drawn(1, 1, 2), BAD);
        x.light(0);
        x.hours(1);
        due("27: SMOKE of these HOURS alone", x.drawn(2, 1, 1), 2);
        due("27: ASH", x.drawn(3, 1, 0), 1);
        x.rake(0, 1);
        due("27: OUT, it is neither lit nor watered", x.drawn(60, 1, 1), 0);
        x = new BonfireHeaps();
        due("27: no HEAP", x.drawn(99, 0, 9), STATE);
        // seed 10: X is 168070, even and by 5: LIT by hand it is not watered
        fresh("b0;s2,0;");
        due("27: lit ahead of watered", x.drawn(1, 10, 0), 1);
        // LIT already: watered by the rest of 168070 by 4 = 2
        x.light(0);
        due("27: LIT already, watered", x.drawn(1, 10, 0), 0);
        // seed 20: X is 336140, by 4 leaves 0: watered by 0 it is not LIT any more
        due("27: watered by 0", x.drawn(1, 20, 1), 0);
        // seed 7 * 1: X is 117649 = 7 times 16807: WIND turns ahead of the HOUR
        fresh("b0;s9,0;i5,0;s9,0;");
        x.light(0);
        due("27: WIND turned, iron and wind light thing 2", x.drawn(2, 7, 1), 3);
        due("27: WIND is as it was", x.count(3), 0);
    }

    private void images() {
        x = new BonfireHeaps();
        due("28: no HEAP", x.image(0), STATE);
        due("28: BAD ahead of it", x.image(2), BAD);
        due("29: none", x.restore(0), STATE);
        due("29: BAD ahead of it", x.restore(-1), BAD);
        read("b0;s8,0;g6,3;");
        x.light(0);
        x.hours(1);
        x.swap(0, 1);
        x.rake(1, 1);
        x.wind();
        due("28: image(1)", x.image(1), 1);
        due("28: ACTS stay", x.count(8), 5);
        due("29: the other", x.restore(0), STATE);
        x.undo();
        x.hours(3);
        x.feed('b');
        read("0;d9,9;");
        due("29: restore(1)", x.restore(1), 1);
        due("29: THINGS", x.count(1), 2);
        due("29: HOUR", x.count(2), 1);
        due("29: WIND", x.count(3), 1);
        due("29: LIT", x.count(4), 1);
        due("29: OUT", x.count(5), 2);
        due("29: SMOKE", x.count(7), 1);
        due("29: no ACTS", x.count(8), 0);
        due("29: undo()", x.undo(), STATE);
        due("29: STUFF", x.thing(0, 0), 6);
        due("29: WET", x.thing(1, 1), 1);
        due("29: PLACE", x.thing(0, 2), 1);
        due("29: KIND", x.kind(1), 2);
        x.hours(9);
        due("29: once more", x.restore(1), 1);
        due("29: HOUR", x.count(2), 1);
        due("29: no ACTS", x.count(8), 0);
        due("29: restore(2)", x.restore(2), BAD);
        due("28: image(0)", x.image(0), 1);
        x.water(0, 9);
        due("28: another in place of it", x.image(1), 1);
        x.hours(1);
        x.restore(1);
        due("29: the later one", x.thing(0, 1), 9);
        x.restore(0);
        due("29: the other one", x.thing(0, 1), 0);
    }

    // ---- 30 to 33

    private void asked() {
        fresh(ONE_OF_EACH);
        for (int thing = 0; thing < 5; thing++) {
            due("30: kind(" + thing + ")", x.kind(thing), thing + 1);
        }
        due("30: kind(5)", x.kind(5), BAD);
        due("30: kind(-1)", x.kind(-1), BAD);
        String[] are = {"01", "012", "013", "04", "045"};
        for (int thing = 0; thing < 5; thing++) {
            for (int kind = 0; kind <= 5; kind++) {
                boolean is = are[thing].indexOf('0' + kind) >= 0;
                due("31: as(" + thing + ", " + kind + ")", x.as(thing, kind), is ? thing : KIND);
            }
        }
        due("31: as(0, 6)", x.as(0, 6), BAD);
        due("31: as(0, -1)", x.as(0, -1), BAD);
        due("31: as(5, 0)", x.as(5, 0), BAD);
        asks(0, 0, 9, 11, 10, 21, 20);
        asks(0, 1, 1, 21, 20);
        asks(1, 0, -14, 12, 11, 10, 24, 21, 20);
        asks(1, 1, 8, 24, 21, 20);
        asks(2, 0, 9 - 994, 11, 10, 22, 21, 20);
        asks(2, 1, -994, 22, 21, 20);
        asks(3, 0, -88, 13, 10);
        asks(3, 1, 91, 23, 20, 13, 10);
        asks(4, 0, -192, 14, 13, 10);
        asks(4, 1, 196, 23, 20, 14, 13, 10);
        due("32: ask(5, 0)", x.ask(5, 0), BAD);
        due("32: ask(0, 2)", x.ask(0, 2), BAD);
        due("33: a refused one leaves THE TRACE", x.trace(4), 10);
        due("33: trace(-1)", x.trace(-1), NONE);
        due("33: trace(most)", x.trace(Integer.MAX_VALUE), NONE);
        x.water(0, 6);
        asks(0, 0, 15, 11, 10, 21, 20);
    }

    private void asks(int thing, int what, int answer, int... bodies) {
        String call = "ask(" + thing + ", " + what + ")";
        due("32: " + call, x.ask(thing, what), answer);
        for (int i = 0; i < bodies.length; i++) {
            due("33: trace(" + i + ") of " + call, x.trace(i), bodies[i]);
        }
        due("33: the end of " + call, x.trace(bodies.length), NONE);
    }
}
