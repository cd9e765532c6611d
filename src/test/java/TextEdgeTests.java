/** The boundaries of a new object, of the tape, and of texts and their FAULTS: promises 1, 6 to 8. */
public final class TextEdgeTests extends Edges {
    private static final String EIGHT = "b0;s1,0;s1,0;s1,0;s1,0;s1,0;s1,0;s1,0;s1,0;";

    public static void main(String[] args) {
        TextEdgeTests tests = new TextEdgeTests();
        tests.newObject();
        tests.feed();
        tests.numbers();
        tests.tokens();
        tests.things();
        tests.heap();
        tests.fault();
        tests.end();
    }

    private int read(String text) {
        feed(x, text);
        return x.heap();
    }

    private void good(String text, int things) {
        x = new BonfireHeaps();
        due("heap() of " + text, read(text), things);
        due("fault() of " + text, x.fault(), 0);
        due("count(1) of " + text, x.count(1), things);
    }

    private void faulty(String text, int number, int place) {
        x = new BonfireHeaps();
        due("heap() of " + text, read(text), -1000100 - place);
        due("fault() of " + text, x.fault(), number);
        due("count(1) of " + text, x.count(1), 0);
        due("count(9) of " + text, x.count(9), 0);
    }

    private void newObject() {
        test("1 a new object: nothing is there", () -> {
            x = new BonfireHeaps();
            for (int what = 0; what <= 9; what++) {
                due("count(" + what + ")", x.count(what), 0);
            }
            due("fault()", x.fault(), 0);
            due("status()", x.status(), 0);
            for (int i = 0; i <= 16; i++) {
                due("trace(" + i + ")", x.trace(i), NONE);
            }
        });
        test("1 a new object: without a HEAP there is no THING and no PLACE", () -> {
            refusedInBare(BAD, "light(0)", y -> y.light(0));
            refusedInBare(BAD, "water(0, 1)", y -> y.water(0, 1));
            refusedInBare(BAD, "rake(0, 0)", y -> y.rake(0, 0));
            refusedInBare(BAD, "rake(0, 1)", y -> y.rake(0, 1));
            refusedInBare(BAD, "swap(0, 1)", y -> y.swap(0, 1));
            refusedInBare(BAD, "thing(0, 0)", y -> y.thing(0, 0));
            refusedInBare(BAD, "place(0)", y -> y.place(0));
            refusedInBare(BAD, "ahead(0, 0, 0)", y -> y.ahead(0, 0, 0));
            refusedInBare(BAD, "when(0, 0)", y -> y.when(0, 0));
            refusedInBare(BAD, "spare(0, 1)", y -> y.spare(0, 1));
            refusedInBare(BAD, "fits(0, 0, 0, 1, 0)", y -> y.fits(0, 0, 0, 1, 0));
            refusedInBare(BAD, "fits(0, 7, 0, 1, 0)", y -> y.fits(0, 7, 0, 1, 0));
            refusedInBare(BAD, "rain(0, 0, 0, 0)", y -> y.rain(0, 0, 0, 0));
            refusedInBare(BAD, "kind(0)", y -> y.kind(0));
            refusedInBare(BAD, "as(0, 0)", y -> y.as(0, 0));
            refusedInBare(BAD, "ask(0, 0)", y -> y.ask(0, 0));
        });
        test("1 a new object: without a HEAP it is STATE for what asks for no THING", () -> {
            refusedInBare(STATE, "hours(1)", y -> y.hours(1));
            refusedInBare(STATE, "wind()", y -> y.wind());
            refusedInBare(STATE, "undo()", y -> y.undo());
            refusedInBare(STATE, "later(0, 0)", y -> y.later(0, 0));
            refusedInBare(STATE, "dead(0)", y -> y.dead(0));
            refusedInBare(STATE, "kindle(0, 1, 0)", y -> y.kindle(0, 1, 0));
            refusedInBare(STATE, "laying(1, 0)", y -> y.laying(1, 0));
            refusedInBare(STATE, "drawn(0, 1, 0)", y -> y.drawn(0, 1, 0));
            refusedInBare(STATE, "image(0)", y -> y.image(0));
            refusedInBare(STATE, "restore(0)", y -> y.restore(0));
        });
        test("1 a new object: what one does, another does not see", () -> {
            BonfireHeaps one = full();
            x = new BonfireHeaps();
            due("count(0)", x.count(0), 0);
            due("count(1)", x.count(1), 0);
            due("restore(0)", x.restore(0), STATE);
            due("trace(0)", x.trace(0), NONE);
            due("the one", one.count(1), 6);
        });
    }

    private void feed() {
        test("6 feed: a byte is 0 to 255", () -> {
            x = new BonfireHeaps();
            due("feed(0)", x.feed(0), 1);
            due("feed(255)", x.feed(255), 2);
            due("count(9)", x.count(9), 2);
            for (int letter : new int[] {-1, 256, LEAST, MOST}) {
                refusedInFull(BAD, "feed(" + letter + ")", y -> y.feed(letter));
                refusedInBare(BAD, "feed(" + letter + ")", y -> y.feed(letter));
            }
        });
        test("6 feed: 90 bytes, and the 91st is FULL", () -> {
            x = new BonfireHeaps();
            for (int i = 1; i <= 90; i++) {
                due("feed " + i, x.feed('b'), i);
            }
            due("the 91st", x.feed('b'), FULL);
            due("count(9)", x.count(9), 90);
            due("the 91st again", x.feed('b'), FULL);
            refused(TextEdgeTests::ninety, FULL, "feed('b') behind 90", y -> y.feed('b'));
            refused(TextEdgeTests::ninety, FULL, "feed(0) behind 90", y -> y.feed(0));
        });
        test("6 feed: BAD is ahead of FULL", () -> {
            refused(TextEdgeTests::ninety, BAD, "feed(256) behind 90", y -> y.feed(256));
            refused(TextEdgeTests::ninety, BAD, "feed(-1) behind 90", y -> y.feed(-1));
        });
        test("6 feed: the tape is empty behind heap(), read or not, and takes 90 again", () -> {
            x = ninety();
            due("heap()", x.heap(), -1000143);
            due("count(9)", x.count(9), 0);
            for (int i = 1; i <= 90; i++) {
                due("feed " + i, x.feed('b'), i);
            }
            due("the 91st", x.feed('b'), FULL);
            x = new BonfireHeaps();
            read(EIGHT);
            due("feed behind a good text", x.feed('b'), 1);
        });
        test("6 feed: bytes come behind the tape, in their order", () -> {
            x = full();
            feed(x, "s8,3;");
            due("heap()", x.heap(), 3);
            due("the one from ahead", x.thing(0, 0), 7);
            due("the one behind", x.thing(2, 0), 8);
        });
    }

    /** A good text and more, up to 90 bytes: the FAULT is at byte 43. */
    private static BonfireHeaps ninety() {
        BonfireHeaps x = bare();
        x.heap();
        feed(x, EIGHT);
        for (int i = 43; i < 90; i++) {
            x.feed('i');
        }
        return x;
    }

    private void numbers() {
        test("7 heap: WIND is 0 or 1", () -> {
            good("b0;s1,0;", 1);
            due("down", x.count(3), 0);
            good("b1;s1,0;", 1);
            due("up", x.count(3), 1);
            for (String wind : new String[] {"2", "9", "10", "11", "99", "02"}) {
                faulty("b" + wind + ";s1,0;", 2, 1);
            }
        });
        test("7 heap: STUFF is 1 to 30", () -> {
            for (int stuff = 1; stuff <= 30; stuff++) {
                good("b0;s" + stuff + ",0;", 1);
                due("STUFF", x.thing(0, 0), stuff);
            }
            for (String stuff : new String[] {"0", "00", "31", "32", "99"}) {
                faulty("b0;s" + stuff + ",0;", 2, 4);
                faulty("b0;s1,0;i" + stuff + ",0;", 2, 9);
            }
        });
        test("7 heap: WET is 0 to 20", () -> {
            for (int wet = 0; wet <= 20; wet++) {
                good("b0;s1," + wet + ";", 1);
                due("WET", x.thing(0, 1), wet);
            }
            for (String wet : new String[] {"21", "22", "30", "99"}) {
                faulty("b0;s1," + wet + ";", 2, 6);
                faulty("b0;s1,0;s30," + wet + ";", 2, 12);
            }
        });
        test("7 heap: NUMBERS have 2 figures at most, a run of three is a FAULT at its first", () -> {
            good("b01;s01,00;", 1);
            due("WIND 01", x.count(3), 1);
            due("STUFF 01", x.thing(0, 0), 1);
            for (String run : new String[] {"000", "001", "010", "100", "999", "0001", "12345"}) {
                faulty("b" + run + ";s1,0;", 1, 1);
                faulty("b0;s" + run + ",0;", 1, 4);
                faulty("b0;s1," + run + ";", 1, 6);
            }
            faulty("b000", 1, 1);
            faulty("100", 1, 0);
            faulty("b0;s1,0;100", 1, 8);
        });
    }

    private void tokens() {
        test("7 heap: the first byte is b, no other of 256", () ->
            eachByte("", "0;s1,0;", "b", 0));
        test("7 heap: SORTS are s, g, l, d, i, no other of 256", () ->
            eachByte("b0;", "1,0;", "sgldi", 3));
        test("7 heap: so are those of a second THING", () ->
            eachByte("b0;s1,0;", "1,0;", "sgldi", 8));
        test("7 heap: SIGNS are where they are told, no other of 256", () -> {
            eachByte("b0", "s1,0;", ";", 2);
            eachByte("b0;s1", "0;", ",", 5);
            eachByte("b0;s1,0", "", ";", 7);
        });
        test("7 heap: a NUMBER where it is told, no other of 256", () -> {
            eachByte("b", ";s1,0;", "01", 1);
            eachByte("b0;s", ",0;", "123456789", 4);
            eachByte("b0;s1,", ";", "0123456789", 6);
        });
        test("7 heap: letters stand each by itself", () -> {
            faulty("bb0;s1,0;", 1, 1);
            faulty("b0;sg1,0;", 1, 4);
            faulty("b0;ss1,0;", 1, 4);
        });
        test("7 heap: the end is a FAULT at how many bytes there are", () -> {
            String text = "b1;s30,20;g1,0;";
            for (int end = 0; end < text.length(); end++) {
                if (end != 10) {
                    faulty(text.substring(0, end), 1, end);
                }
            }
            good(text.substring(0, 10), 1);
            good(text, 2);
        });
        test("7 heap: nothing behind the end is read, though there was a longer text before", () -> {
            String text = "b1;s30,20;g1,0;";
            for (int end = 0; end < text.length(); end++) {
                x = reading(text);
                int answer = read(text.substring(0, end));
                due("heap() of the first " + end, answer, end == 10 ? 1 : -1000100 - end);
                due("THINGS", x.count(1), end == 10 ? 1 : 2);
            }
        });
        test("7 heap: the first TOKEN that has a FAULT", () -> {
            faulty("b2;s0,99;?", 2, 1);
            faulty("b1;s31,99", 2, 4);
            faulty("b1;s30,21", 2, 7);
            faulty("b1 ;s0,0;", 1, 2);
            faulty("b1;s1,0;x0,0", 1, 8);
            faulty("b99", 2, 1);
            faulty("b0;s0", 2, 4);
            faulty("b0;s0x", 2, 4);
        });
        test("7 heap: of one TOKEN the least FAULT", () -> {
            faulty("b0;99,0;", 1, 3);
            faulty("b099;s1,0;", 1, 1);
            faulty("b0;s1,0;99", 1, 8);
            faulty("99", 1, 0);
            faulty(EIGHT + "99", 1, 43);
            faulty(EIGHT + "x", 1, 43);
            faulty(EIGHT + "100", 1, 43);
        });
    }

    /** In the place of one byte those of "are" alone make a good text; figures could lengthen a NUMBER. */
    private void eachByte(String ahead, String behind, String are, int place) {
        boolean isNextToNumber = isFigureAtEnd(ahead) || !behind.isEmpty() && Character.isDigit(behind.charAt(0));
        for (int letter = 0; letter <= 255; letter++) {
            String text = ahead + (char) letter + behind;
            boolean isFigure = letter >= '0' && letter <= '9';
            if (are.indexOf(letter) >= 0) {
                good(text, place == 8 ? 2 : 1);
            } else if (isFigure && !isNextToNumber) {
                faulty(text, 2, place);
            } else if (!isFigure) {
                faulty(text, 1, place);
            }
        }
    }

    private static boolean isFigureAtEnd(String text) {
        return !text.isEmpty() && Character.isDigit(text.charAt(text.length() - 1));
    }

    private void things() {
        test("7 heap: there is one THING at least", () -> {
            faulty("b0;", 1, 3);
            faulty("b1;", 1, 3);
            good("b0;i30,20;", 1);
        });
        test("7 heap: 8 THINGS, in PLACES as they come", () -> {
            good("b1;s30,20;g1,1;l2,2;d3,3;i4,4;s5,5;g6,6;l7,7;", 8);
            for (int thing = 0; thing < 8; thing++) {
                due("PLACE of " + thing, x.thing(thing, 2), thing);
                due("THING in " + thing, x.place(thing), thing);
                due("KIND of " + thing, x.kind(thing), thing % 5 + 1);
                due("STUFF of " + thing, x.thing(thing, 0), thing == 0 ? 30 : thing);
                due("WET of " + thing, x.thing(thing, 1), thing == 0 ? 20 : thing);
            }
            due("thing(8, 0)", x.thing(8, 0), BAD);
        });
        test("7 heap: a ninth is FAULT 3, at its letter", () -> {
            for (String sort : new String[] {"s", "g", "l", "d", "i"}) {
                faulty(EIGHT + sort + "1,0;", 3, 43);
                faulty(EIGHT + sort, 3, 43);
                faulty(EIGHT + sort + "0,99;", 3, 43);
                faulty(EIGHT + sort + "1,0;" + sort + "1,0;", 3, 43);
            }
        });
        test("7 heap: a ninth at byte 60, the last that a FAULT may be at", () -> {
            String most = "b01;s30,20;s30,20;s30,20;s30,20;s30,20;s30,20;s30,20;s30,20;";
            good(most, 8);
            faulty(most + "s", 3, 60);
            faulty(most + ";", 1, 60);
            faulty(most.substring(0, 59), 1, 59);
        });
        test("7 heap: a FAULT of the eighth is its own", () -> {
            faulty(EIGHT.substring(0, 42), 1, 42);
            faulty("b0;s1,0;s1,0;s1,0;s1,0;s1,0;s1,0;s1,0;s0,0;", 2, 39);
            faulty("b0;s1,0;s1,0;s1,0;s1,0;s1,0;s1,0;s1,0;s1,21;", 2, 41);
        });
    }

    private void heap() {
        test("7 heap: an empty tape is a FAULT at 0", () -> {
            faulty("", 1, 0);
            due("once more", x.heap(), -1000100);
        });
        test("7 heap: with a FAULT all stays, but the tape, empty then", () -> {
            String[] texts = {EIGHT + "l", EIGHT + "s1,0;s1,0;"};
            for (String text : texts) {
                for (Look look : Look.values()) {
                    BonfireHeaps asked = full("");
                    BonfireHeaps twin = full("");
                    feed(asked, text);
                    due("heap() of " + text, asked.heap(), -1000143);
                    due("status()", asked.status(), 5);
                    same("heap() of " + text, look.of(asked), look.of(twin));
                }
            }
        });
        test("7 heap: with a FAULT in the last byte nothing of the text is taken", () -> {
            x = full("");
            due("heap()", read("b0;l1,1;l1,1;l1,1,"), -1000117);
            due("THINGS", x.count(1), 6);
            due("WIND", x.count(3), 1);
            due("HOUR", x.count(2), 2);
            due("ACTS", x.count(8), 6);
            due("STUFF", x.thing(0, 0), 5);
            due("LIT", x.count(4), 1);
            due("OUT", x.count(5), 8);
        });
        test("7 heap: one that is read stands in place of the one before, with nothing of it", () -> {
            x = full();
            due("heap()", x.heap(), 2);
            due("HOUR", x.count(2), 0);
            due("WIND", x.count(3), 0);
            due("LIT", x.count(4), 0);
            due("OUT", x.count(5), 0);
            due("ASH", x.count(6), 0);
            due("SMOKE", x.count(7), 0);
            due("ACTS", x.count(8), 0);
            due("undo()", x.undo(), STATE);
            due("thing(1, 2)", x.thing(1, 2), 1);
            due("thing(2, 0)", x.thing(2, 0), BAD);
            due("place(2)", x.place(2), BAD);
        });
        test("7 heap: ROWS, IMAGES, THE TRACE, FAULT and status() are not of the HEAP", () -> {
            x = full();
            x.heap();
            due("ROWS", x.count(0), 4);
            due("trace(0)", x.trace(0), 12);
            due("fault()", x.fault(), 3);
            due("status()", x.status(), 5);
            due("restore(1)", x.restore(1), 1);
            due("its KIND", x.kind(0), 4);
            due("restore(0)", x.restore(0), 1);
            due("its HOUR", x.count(2), 2);
        });
        test("7 heap: a shorter one behind a longer, a longer behind a shorter", () -> {
            x = reading(EIGHT);
            due("1 behind 8", read("b1;d9,9;"), 1);
            due("kind(1)", x.kind(1), BAD);
            due("8 behind 1", read(EIGHT), 8);
            due("kind(0)", x.kind(0), 1);
            due("kind(7)", x.kind(7), 1);
        });
    }

    private void fault() {
        test("8 fault: 0 before one", () -> {
            x = new BonfireHeaps();
            due("at first", x.fault(), 0);
            read("b0;s1,0;");
            due("behind a good text", x.fault(), 0);
            x.feed(256);
            x.light(9);
            x.hours(0);
            due("behind refused calls", x.fault(), 0);
        });
        test("8 fault: the latest, each of the three", () -> {
            x = new BonfireHeaps();
            read("x");
            due("1", x.fault(), 1);
            read("b2");
            due("2", x.fault(), 2);
            read(EIGHT + "s");
            due("3", x.fault(), 3);
            read("");
            due("1 by the empty tape", x.fault(), 1);
        });
        test("8 fault: it stays behind a good text", () -> {
            x = reading("b2");
            due("a good text", read("b1;s1,0;"), 1);
            due("fault()", x.fault(), 2);
        });
    }
}
