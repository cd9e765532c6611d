/** The boundaries of what is looked at and asked: promises 16, 17, 30 to 34. */
public final class LookEdgeTests extends Edges {
    private static final String EIGHT = "b0;s9,0;s9,0;s9,0;s9,0;s9,0;s9,0;s9,0;s9,0;";
    private static final int[] NO_THINGS = {-1, 6, 7, 8, LEAST, MOST};

    public static void main(String[] args) {
        LookEdgeTests tests = new LookEdgeTests();
        tests.thing();
        tests.heat();
        tests.iron();
        tests.place();
        tests.kind();
        tests.as();
        tests.ask();
        tests.trace();
        tests.count();
        tests.end();
    }

    private void heats(String what, int... wanted) {
        for (int thing = 0; thing < wanted.length; thing++) {
            due(what + ", HEAT of " + thing, x.thing(thing, 5), wanted[thing]);
        }
    }

    private void thing() {
        test("16 thing: there is no such THING", () -> {
            for (int what = 0; what <= 6; what++) {
                for (int thing : NO_THINGS) {
                    int asked = what;
                    refusedInFull(BAD, "thing(" + thing + ", " + what + ")", y -> y.thing(thing, asked));
                }
                x = reading(EIGHT);
                due("thing(7, " + what + ")", x.thing(7, what), what == 0 ? 9 : what == 2 ? 7 : 0);
                due("thing(8, " + what + ")", x.thing(8, what), BAD);
                x = reading("b0;s9,0;");
                due("thing(0, " + what + ")", x.thing(0, what), what == 0 ? 9 : 0);
                due("thing(1, " + what + ")", x.thing(1, what), BAD);
            }
        });
        test("16 thing: what is 0 to 6", () -> {
            for (int what : new int[] {-1, 7, 8, LEAST, MOST}) {
                refusedInFull(BAD, "thing(0, " + what + ")", y -> y.thing(0, what));
                refusedInBare(BAD, "thing(0, " + what + ")", y -> y.thing(0, what));
            }
        });
        test("16 thing: each of what there is of a THING", () -> {
            x = full();
            int[][] wanted = {{5, 0, 0, 1, 0, 0, 0}, {6, 0, 5, 0, 0, 0, 0}, {9, 1, 2, 0, 0, 1, 0},
                {12, 7, 3, 0, 1, 0, 0}, {4, 2, 4, 0, 0, 0, 0}, {5, 0, 1, 0, 0, 2, 0}};
            for (int thing = 0; thing < 6; thing++) {
                for (int what = 0; what <= 6; what++) {
                    due("thing(" + thing + ", " + what + ")", x.thing(thing, what), wanted[thing][what]);
                }
            }
        });
        test("16 thing: ASH is no STUFF, OUT or not", () -> {
            fresh("b0;l5,0;");
            x.light(0);
            x.hours(1);
            due("of STUFF 1", x.thing(0, 6), 0);
            x.hours(1);
            due("of STUFF 0", x.thing(0, 6), 1);
            due("not LIT", x.thing(0, 3), 0);
            x.rake(0, 1);
            due("of STUFF 0, OUT", x.thing(0, 6), 1);
        });
    }

    private void heat() {
        test("16 thing: HEAT in the first and in the last PLACE, nothing goes round", () -> {
            x = reading(EIGHT);
            heats("no fire", 0, 0, 0, 0, 0, 0, 0, 0);
            x.light(0);
            heats("0 LIT, WIND down", 0, 2, 0, 0, 0, 0, 0, 0);
            x.wind();
            heats("0 LIT, WIND up", 0, 2, 1, 0, 0, 0, 0, 0);
            x = reading(EIGHT);
            x.light(7);
            heats("7 LIT, WIND down", 0, 0, 0, 0, 0, 1, 2, 0);
            x.wind();
            heats("7 LIT, WIND up", 0, 0, 0, 0, 0, 0, 2, 0);
            x = reading(EIGHT);
            x.light(6);
            x.light(1);
            heats("1 and 6 LIT, WIND down", 2, 0, 2, 0, 1, 2, 0, 2);
            x.wind();
            heats("1 and 6 LIT, WIND up", 2, 0, 2, 1, 0, 2, 0, 2);
        });
        test("16 thing: HEAT of the only THING", () -> {
            fresh("b1;s9,0;");
            x.light(0);
            due("HEAT", x.thing(0, 5), 0);
        });
        test("16 thing: HEAT 2 for each beside, 1 by the wind once, 5 at most", () -> {
            fresh("b1;s9,0;s9,0;s9,0;s9,0;s9,0;");
            x.light(1);
            due("one beside", x.thing(2, 5), 2);
            x.light(3);
            due("two beside", x.thing(2, 5), 4);
            x.light(0);
            due("two and the wind", x.thing(2, 5), 5);
            x.light(4);
            due("the wind from one side alone", x.thing(2, 5), 5);
            x.light(2);
            due("one that is LIT itself", x.thing(2, 5), 5);
        });
        test("16 thing: HEAT of one that is OUT is 0, and none comes of it", () -> {
            fresh("b1;s9,0;s9,0;s9,0;s9,0;");
            x.light(0);
            x.light(1);
            heats("ahead", 2, 2, 3, 1);
            x.rake(2, 1);
            heats("2 is OUT", 2, 2, 0, 1);
            x.rake(1, 1);
            heats("1 is OUT, too", 0, 0, 0, 0);
            x.rake(2, 0);
            heats("2 is laid on again", 0, 0, 1, 0);
        });
        test("16 thing: HEAT goes by PLACES, not by numbers", () -> {
            fresh("b1;s9,0;d9,0;d9,0;s9,0;");
            x.light(0);
            x.swap(0, 3);
            heats("LIT in PLACE 3", 0, 0, 2, 0);
            x.wind();
            heats("WIND down", 0, 1, 2, 0);
        });
    }

    private void iron() {
        test("16 thing: iron beside gives 1, with a LIT THING beside it", () -> {
            fresh("b0;s9,0;i9,0;s9,0;i9,0;s9,0;");
            x.light(0);
            heats("one of iron is hot", 1, 2, 1, 0, 0);
            x.light(4);
            heats("both are", 1, 2, 3, 2, 1);
            x.wind();
            heats("both are, WIND up", 1, 2, 3, 2, 1);
        });
        test("16 thing: iron is hot as the first THING and as the last", () -> {
            fresh("b0;i9,0;s9,0;d9,0;i9,0;");
            x.light(1);
            x.swap(0, 2);
            heats("the first in PLACE 2", 2, 1, 2, 1);
            x.swap(0, 3);
            heats("the last in PLACE 2", 1, 1, 2, 2);
        });
        test("16 thing: iron with two LIT ones beside gives 1", () -> {
            fresh("b1;s9,0;i9,0;s9,0;");
            x.light(0);
            x.light(2);
            heats("between", 1, 4, 2);
        });
        test("16 thing: iron that the wind alone reaches gives none", () -> {
            fresh("b1;s9,0;d9,0;i9,0;s9,0;");
            x.light(0);
            heats("2 away", 0, 2, 1, 0);
        });
        test("16 thing: iron gives to iron, which gives no further", () -> {
            fresh("b0;s9,0;i9,0;i9,0;s9,0;");
            x.light(0);
            heats("in a row", 1, 2, 1, 0);
        });
        test("16 thing: a door gives none, nor does iron that is OUT", () -> {
            fresh("b0;s9,0;d9,0;s9,0;");
            x.light(0);
            heats("a door", 0, 2, 0);
            fresh("b0;s9,0;i9,0;s9,0;");
            x.light(0);
            heats("iron", 1, 2, 1);
            x.rake(1, 1);
            heats("iron that is OUT", 0, 0, 0);
        });
    }

    private void place() {
        test("17 place: from 0 to one less than there are THINGS", () -> {
            x = reading(EIGHT);
            due("place(0)", x.place(0), 0);
            due("place(7)", x.place(7), 7);
            due("place(8)", x.place(8), BAD);
            x = reading("b0;s9,0;");
            due("place(0) of 1", x.place(0), 0);
            due("place(1) of 1", x.place(1), BAD);
            for (int place : NO_THINGS) {
                refusedInFull(BAD, "place(" + place + ")", y -> y.place(place));
            }
            refusedInBare(BAD, "place(0)", y -> y.place(0));
            refusedInBare(BAD, "place(-1)", y -> y.place(-1));
        });
        test("17 place: one that is OUT, or ASH, keeps its PLACE", () -> {
            fresh("b0;l1,0;s9,0;");
            x.light(0);
            x.hours(1);
            x.rake(1, 1);
            due("ASH", x.place(0), 0);
            due("OUT", x.place(1), 1);
            x.swap(0, 1);
            due("OUT then", x.place(0), 1);
            due("ASH then", x.place(1), 0);
        });
    }

    private void kind() {
        test("30 kind: there is no such THING", () -> {
            x = reading(EIGHT);
            due("kind(0)", x.kind(0), 1);
            due("kind(7)", x.kind(7), 1);
            due("kind(8)", x.kind(8), BAD);
            for (int thing : NO_THINGS) {
                refusedInFull(BAD, "kind(" + thing + ")", y -> y.kind(thing));
            }
            refusedInBare(BAD, "kind(0)", y -> y.kind(0));
            refusedInBare(BAD, "kind(-1)", y -> y.kind(-1));
        });
        test("30 kind: as told, 1 to 5, and ASH, too", () -> {
            fresh("b0;s1,0;g1,0;l1,0;d1,0;i1,0;");
            for (int thing = 0; thing < 5; thing++) {
                due("kind(" + thing + ")", x.kind(thing), thing + 1);
            }
            x.light(2);
            x.hours(3);
            due("ASH", x.count(6), 7);
            due("kind(2) of ASH", x.kind(2), 3);
        });
    }

    private void as() {
        test("31 as: there is no such THING, ahead of KIND", () -> {
            for (int thing : NO_THINGS) {
                refusedInFull(BAD, "as(" + thing + ", 0)", y -> y.as(thing, 0));
                refusedInFull(BAD, "as(" + thing + ", 5)", y -> y.as(thing, 5));
            }
            refusedInBare(BAD, "as(0, 0)", y -> y.as(0, 0));
            x = reading(EIGHT);
            due("as(7, 1)", x.as(7, 1), 7);
            due("as(8, 1)", x.as(8, 1), BAD);
        });
        test("31 as: KINDS are 0 to 5", () -> {
            for (int kind : new int[] {-1, 6, 7, LEAST, MOST}) {
                refusedInFull(BAD, "as(0, " + kind + ")", y -> y.as(0, kind));
                refusedInFull(BAD, "as(4, " + kind + ")", y -> y.as(4, kind));
            }
        });
        test("31 as: each KIND is what the document says, or KIND is found", () -> {
            String[] are = {"01", "012", "013", "04", "045"};
            for (int thing = 0; thing < 5; thing++) {
                for (int kind = 0; kind <= 5; kind++) {
                    int t = thing;
                    int k = kind;
                    if (are[thing].indexOf('0' + kind) < 0) {
                        refusedInFull(KIND, "as(" + t + ", " + k + ")", y -> y.as(t, k));
                    } else {
                        x = full();
                        due("as(" + t + ", " + k + ")", x.as(t, k), t);
                        due("status()", x.status(), 0);
                    }
                }
            }
        });
    }

    private void ask() {
        test("32 ask: there is no such THING, and THE TRACE stays", () -> {
            for (int thing : NO_THINGS) {
                refusedInFull(BAD, "ask(" + thing + ", 0)", y -> y.ask(thing, 0));
                refusedInFull(BAD, "ask(" + thing + ", 1)", y -> y.ask(thing, 1));
            }
            refusedInBare(BAD, "ask(0, 0)", y -> y.ask(0, 0));
        });
        test("32 ask: what is 0 or 1, and THE TRACE stays", () -> {
            for (int what : new int[] {-1, 2, LEAST, MOST}) {
                refusedInFull(BAD, "ask(0, " + what + ")", y -> y.ask(0, what));
                refusedInBare(BAD, "ask(0, " + what + ")", y -> y.ask(0, what));
            }
        });
        test("32 ask: the first and the last THING, least and most STUFF and WET", () -> {
            asked("s", 37 + 20, 27, -1, -1);
            asked("g", -84, 54, -1, -1);
            asked("l", 30 + 27 - 1000, 27 - 1000, -1, -1);
            asked("d", -70, 7 + 70, -99, 99);
            asked("i", -140, 7 + 140, -198, 198);
            fresh("b0;s1,0;g1,0;l1,0;");
            due("SIZE of a stick", x.ask(0, 0), 1);
            due("MARK of a stick", x.ask(0, 1), 0);
            due("SIZE of a green one", x.ask(1, 0), -3);
            due("SIZE of a letter", x.ask(2, 0), 1 + 2 - 1000);
            x.light(2);
            x.hours(3);
            due("SIZE of ASH", x.ask(1, 0), -2);
        });
        test("32 ask: THE TRACE is empty ahead of it", () -> {
            fresh("b0;g6,3;d12,7;");
            x.ask(0, 0);
            due("a long one", x.trace(5), 20);
            x.ask(1, 0);
            traced(13, 10);
            x.ask(0, 1);
            traced(24, 21, 20);
        });
    }

    /** Of THING 7 with STUFF 30 and WET 20, then (where it matters) of THING 0 with STUFF 1 and WET 0. */
    private void asked(String sort, int size, int mark, int sizeOfFirst, int markOfFirst) {
        fresh("b0;" + sort + "1,0;s1,0;s1,0;s1,0;s1,0;s1,0;s1,0;" + sort + "30,20;");
        due("SIZE of 7, " + sort, x.ask(7, 0), size);
        due("MARK of 7, " + sort, x.ask(7, 1), mark);
        if (sizeOfFirst != -1) {
            due("SIZE of 0, " + sort, x.ask(0, 0), sizeOfFirst);
            due("MARK of 0, " + sort, x.ask(0, 1), markOfFirst);
        }
    }

    private void traced(int... bodies) {
        for (int i = 0; i < bodies.length; i++) {
            due("trace(" + i + ")", x.trace(i), bodies[i]);
        }
        for (int i = bodies.length; i <= 17; i++) {
            due("trace(" + i + ") beyond", x.trace(i), NONE);
        }
    }

    private void trace() {
        test("33 trace: empty before an ask", () -> {
            x = new BonfireHeaps();
            traced();
            fresh("b0;g6,3;");
            traced();
            x.ask(1, 0);
            traced();
        });
        test("33 trace: each BODY as it begins, then NONE", () -> {
            fresh("b0;s8,1;g6,3;l9,4;d12,7;i4,2;");
            int[][] sizes = {{11, 10, 21, 20}, {12, 11, 10, 24, 21, 20}, {11, 10, 22, 21, 20}, {13, 10},
                {14, 13, 10}};
            int[][] marks = {{21, 20}, {24, 21, 20}, {22, 21, 20}, {23, 20, 13, 10}, {23, 20, 14, 13, 10}};
            for (int thing = 0; thing < 5; thing++) {
                x.ask(thing, 0);
                traced(sizes[thing]);
                x.ask(thing, 1);
                traced(marks[thing]);
            }
        });
        test("33 trace: below 0 and far beyond it is NONE", () -> {
            for (int i : new int[] {-1, 6, 15, 16, 17, LEAST, MOST}) {
                refusedInFull(NONE, "trace(" + i + ")", y -> y.trace(i));
                refusedInBare(NONE, "trace(" + i + ")", y -> y.trace(i));
            }
        });
        test("33 trace: it stays behind other calls", () -> {
            x = full();
            x.undo();
            x.restore(0);
            x.as(1, 1);
            x.heap();
            traced(12, 11, 10, 24, 21, 20);
        });
    }

    private void count() {
        test("34 count: what is 0 to 9", () -> {
            for (int what : new int[] {-1, 10, 11, LEAST, MOST}) {
                refusedInFull(BAD, "count(" + what + ")", y -> y.count(what));
                refusedInBare(BAD, "count(" + what + ")", y -> y.count(what));
            }
        });
        test("34 count: each of them", () -> {
            x = full();
            int[] wanted = {4, 6, 2, 1, 1, 8, 0, 2, 6, 13};
            for (int what = 0; what <= 9; what++) {
                due("count(" + what + ")", x.count(what), wanted[what]);
            }
        });
        test("34 count: without a HEAP", () -> {
            x = bare();
            int[] wanted = {3, 0, 0, 0, 0, 0, 0, 0, 0, 13};
            for (int what = 0; what <= 9; what++) {
                due("count(" + what + ")", x.count(what), wanted[what]);
            }
        });
        test("34 count: all ROWS, all 8 THINGS, the tape full", () -> {
            x = reading("b0;l4,0;l4,0;l4,0;l4,0;l4,0;l4,0;l4,0;l4,0;");
            for (int i = 0; i < 8; i++) {
                x.row(i, 0, 0);
                x.light(i);
            }
            for (int i = 0; i < 95; i++) {
                x.feed('b');
            }
            due("ROWS", x.count(0), 8);
            due("THINGS", x.count(1), 8);
            due("LIT", x.count(4), 255);
            due("bytes", x.count(9), 90);
            x.hours(1);
            due("ASH", x.count(6), 255);
            due("LIT then", x.count(4), 0);
            for (int i = 0; i < 8; i++) {
                x.rake(i, 1);
            }
            due("OUT", x.count(5), 255);
            due("ASH, OUT", x.count(6), 255);
            due("ACTS", x.count(8), 17);
        });
    }
}
