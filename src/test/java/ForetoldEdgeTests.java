/** The boundaries of what is FORETOLD, and of IMAGES: promises 18 to 29. */
public final class ForetoldEdgeTests extends Edges {
    private static final String EIGHT = "b0;s9,0;s9,0;s9,0;s9,0;s9,0;s9,0;s9,0;s9,0;";
    // LIT at 0 it comes to 1 behind 11, to 2 behind 22, .. to 5 behind 55, to 6 behind 60
    private static final String SLOW = "b0;g30,0;g30,20;g30,20;g30,20;g30,20;g30,20;g30,8;";
    private static final int[] NO_THINGS = {-1, 6, 7, 8, LEAST, MOST};
    private static final int[] NEITHER = {-1, 2, LEAST, MOST};

    public static void main(String[] args) {
        ForetoldEdgeTests tests = new ForetoldEdgeTests();
        tests.ahead();
        tests.later();
        tests.when();
        tests.dead();
        tests.kindle();
        tests.spare();
        tests.laying();
        tests.fits();
        tests.fitting();
        tests.rain();
        tests.drawn();
        tests.images();
        tests.end();
    }

    private void lit(String text) {
        fresh(text);
        x.light(0);
    }

    /** Asked, and with nothing changed by it. */
    private void told(String call, Call made) {
        for (Look look : Look.values()) {
            BonfireHeaps asked = full();
            made.on(asked);
            same(call, look.of(asked), look.of(full()));
        }
    }

    private void ahead() {
        test("18 ahead: there is no such THING", () -> {
            for (int thing : NO_THINGS) {
                refusedInFull(BAD, "ahead(" + thing + ", 0, 0)", y -> y.ahead(thing, 0, 0));
            }
            refusedInBare(BAD, "ahead(0, 0, 0)", y -> y.ahead(0, 0, 0));
            x = reading(EIGHT);
            due("ahead(7, 0, 0)", x.ahead(7, 0, 0), 9);
            due("ahead(8, 0, 0)", x.ahead(8, 0, 0), BAD);
        });
        test("18 ahead: 0 to 60 HOURS on", () -> {
            lit(SLOW);
            due("STUFF now", x.ahead(0, 0, 0), 30);
            due("WET now", x.ahead(1, 0, 1), 20);
            due("STUFF, 1 on", x.ahead(0, 1, 0), 29);
            due("WET, 1 on", x.ahead(1, 1, 1), 18);
            due("STUFF, 59 on", x.ahead(5, 59, 0), 26);
            due("STUFF, 60 on", x.ahead(5, 60, 0), 25);
            due("WET, 58 on", x.ahead(6, 58, 1), 2);
            due("WET, 60 on", x.ahead(6, 60, 1), 0);
            for (int d : new int[] {-1, 61, 62, LEAST, MOST}) {
                refusedInFull(BAD, "ahead(0, " + d + ", 0)", y -> y.ahead(0, d, 0));
                refusedInFull(BAD, "ahead(0, " + d + ", 1)", y -> y.ahead(0, d, 1));
            }
        });
        test("18 ahead: what is 0 or 1", () -> {
            for (int what : NEITHER) {
                refusedInFull(BAD, "ahead(0, 0, " + what + ")", y -> y.ahead(0, 0, what));
            }
        });
        test("18 ahead: nothing changes", () -> {
            told("ahead(0, 60, 0)", y -> y.ahead(0, 60, 0));
            told("ahead(1, 60, 1)", y -> y.ahead(1, 60, 1));
        });
    }

    private void later() {
        test("19 later: 0 to 60 HOURS on", () -> {
            lit(SLOW);
            due("LIT now", x.later(0, 0), 1);
            due("SMOKE now", x.later(0, 1), 0);
            due("SMOKE, 1 on", x.later(1, 1), 3);
            due("LIT, 59 on", x.later(59, 0), 8 + 16 + 32);
            due("LIT, 60 on", x.later(60, 0), 8 + 16 + 32 + 64);
            due("SMOKE, 59 on", x.later(59, 1), 405);
            due("SMOKE, 60 on", x.later(60, 1), 414);
            for (int d : new int[] {-1, 61, 62, LEAST, MOST}) {
                refusedInFull(BAD, "later(" + d + ", 0)", y -> y.later(d, 0));
                refusedInFull(BAD, "later(" + d + ", 1)", y -> y.later(d, 1));
            }
        });
        test("19 later: what is 0 or 1", () -> {
            for (int what : NEITHER) {
                refusedInFull(BAD, "later(0, " + what + ")", y -> y.later(0, what));
            }
        });
        test("19 later: no HEAP is STATE, ahead of BAD", () -> {
            refusedInBare(STATE, "later(0, 0)", y -> y.later(0, 0));
            refusedInBare(STATE, "later(-1, 0)", y -> y.later(-1, 0));
            refusedInBare(STATE, "later(61, 0)", y -> y.later(61, 0));
            refusedInBare(STATE, "later(0, 2)", y -> y.later(0, 2));
        });
        test("19 later: SMOKE of all HOURS up to then", () -> {
            lit("b0;g9,0;");
            x.hours(2);
            due("now", x.later(0, 1), 6);
            due("1 on", x.later(1, 1), 9);
        });
        test("19 later: nothing changes", () -> {
            told("later(60, 0)", y -> y.later(60, 0));
            told("later(60, 1)", y -> y.later(60, 1));
        });
    }

    private void when() {
        test("20 when: there is no such THING", () -> {
            for (int thing : NO_THINGS) {
                refusedInFull(BAD, "when(" + thing + ", 0)", y -> y.when(thing, 0));
                refusedInFull(BAD, "when(" + thing + ", 1)", y -> y.when(thing, 1));
            }
            refusedInBare(BAD, "when(0, 0)", y -> y.when(0, 0));
            x = reading(EIGHT);
            due("when(7, 0)", x.when(7, 0), NONE);
            due("when(8, 0)", x.when(8, 0), BAD);
        });
        test("20 when: what is 0 or 1", () -> {
            for (int what : NEITHER) {
                refusedInFull(BAD, "when(0, " + what + ")", y -> y.when(0, what));
            }
        });
        test("20 when: CAUGHT behind 0, 1 and 60, and NONE behind 61", () -> {
            lit(SLOW);
            due("LIT now", x.when(0, 0), 0);
            due("behind 60", x.when(6, 0), 60);
            x.water(6, 1);
            due("behind 61", x.when(6, 0), NONE);
            lit("b0;g30,0;s9,0;");
            due("behind 1", x.when(1, 0), 1);
        });
        test("20 when: ASH behind 0, 1 and 60, and NONE behind 61", () -> {
            lit("b0;g30,0;g30,20;g30,20;g27,20;l1,0;");
            due("behind 60", x.when(3, 1), 60);
            x.light(4);
            due("behind 1", x.when(4, 1), 1);
            x.hours(1);
            due("behind 0", x.when(4, 1), 0);
            lit("b0;g30,0;g30,20;g30,20;g28,20;");
            due("behind 61", x.when(3, 1), NONE);
            x.hours(1);
            due("behind 60 then", x.when(3, 1), 60);
        });
        test("20 when: ASH is not LIT again, and what would not burn is neither", () -> {
            lit("b0;l1,0;g9,20;d9,0;i9,0;");
            x.hours(1);
            due("ASH, CAUGHT", x.when(0, 0), NONE);
            for (int thing = 1; thing < 4; thing++) {
                due("CAUGHT " + thing, x.when(thing, 0), NONE);
                due("ASH " + thing, x.when(thing, 1), NONE);
            }
        });
        test("20 when: nothing changes", () -> {
            told("when(5, 0)", y -> y.when(5, 0));
            told("when(5, 1)", y -> y.when(5, 1));
            told("when(3, 1)", y -> y.when(3, 1));
        });
    }

    private void dead() {
        test("21 dead: what is 0 or 1", () -> {
            for (int what : NEITHER) {
                refusedInFull(BAD, "dead(" + what + ")", y -> y.dead(what));
            }
        });
        test("21 dead: no HEAP is STATE, ahead of BAD", () -> {
            for (int what : new int[] {0, 1, -1, 2, LEAST, MOST}) {
                refusedInBare(STATE, "dead(" + what + ")", y -> y.dead(what));
            }
        });
        test("21 dead: DEAD behind 0, when nothing is LIT", () -> {
            x = reading(EIGHT);
            due("DEAD", x.dead(0), 0);
            due("LEFT", x.dead(1), 255);
            x.rake(7, 1);
            due("LEFT but what is OUT", x.dead(1), 127);
            lit("b0;l1,0;");
            due("DEAD", x.dead(0), 1);
            x.hours(1);
            due("DEAD of ASH", x.dead(0), 0);
            due("LEFT of ASH", x.dead(1), 0);
        });
        test("21 dead: DEAD far beyond 60, as late as can be", () -> {
            lit("b0;g30,0;g30,20;g30,20;g30,20;g30,20;g30,20;g30,20;g30,20;");
            due("DEAD", x.dead(0), 7 * 11 + 30);
            due("LEFT", x.dead(1), 0);
            x.hours(1);
            due("DEAD an HOUR later", x.dead(0), 106);
            x.rake(7, 1);
            due("DEAD without the last", x.dead(0), 6 * 11 + 30 - 1);
            due("LEFT, the last is OUT", x.dead(1), 0);
        });
        test("21 dead: LEFT is what has STUFF, and is not OUT then", () -> {
            lit("b0;l1,0;d9,0;s9,0;i9,0;s9,5;");
            x.rake(4, 1);
            due("LEFT", x.dead(1), 2 + 4 + 8);
        });
        test("21 dead: nothing changes", () -> {
            told("dead(0)", y -> y.dead(0));
            told("dead(1)", y -> y.dead(1));
        });
    }

    private void kindle() {
        test("22 kindle: a set of THINGS that there are, from none to all", () -> {
            x = reading(EIGHT);
            due("none", x.kindle(0, 1, 0), 0);
            due("none, which", x.kindle(0, 1, 1), 0);
            due("all of 8", x.kindle(255, 60, 1), 1);
            due("256", x.kindle(256, 60, 1), BAD);
            x = reading("b0;l1,0;");
            due("all of 1", x.kindle(1, 1, 1), 1);
            due("2 of 1", x.kindle(2, 1, 1), BAD);
            due("3 of 1", x.kindle(3, 1, 1), BAD);
            for (int set : new int[] {-1, -64, 64, 65, 128, 256, LEAST, MOST}) {
                refusedInFull(BAD, "kindle(" + set + ", 1, 0)", y -> y.kindle(set, 1, 0));
            }
        });
        test("22 kindle: 1 to 60 HOURS", () -> {
            fresh("b0;l4,0;l5,0;");
            due("ASH behind 1", x.kindle(1, 1, 1), 1);
            due("not behind 1", x.kindle(2, 1, 1), NONE);
            due("behind 2", x.kindle(2, 2, 1), 2);
            fresh("b0;g30,0;g30,20;g30,20;g27,20;");
            due("ASH behind 60", x.kindle(8, 60, 1), 1);
            due("how many", x.kindle(8, 60, 0), 1);
            due("not behind 59", x.kindle(8, 59, 1), NONE);
            due("not behind 59", x.kindle(8, 59, 0), NONE);
            for (int n : new int[] {0, -1, 61, 62, LEAST, MOST}) {
                refusedInFull(BAD, "kindle(1, " + n + ", 0)", y -> y.kindle(1, n, 0));
            }
        });
        test("22 kindle: what is 0 or 1", () -> {
            for (int what : NEITHER) {
                refusedInFull(BAD, "kindle(1, 1, " + what + ")", y -> y.kindle(1, 1, what));
            }
        });
        test("22 kindle: no HEAP is STATE, ahead of BAD", () -> {
            refusedInBare(STATE, "kindle(0, 1, 0)", y -> y.kindle(0, 1, 0));
            refusedInBare(STATE, "kindle(1, 1, 0)", y -> y.kindle(1, 1, 0));
            refusedInBare(STATE, "kindle(-1, 1, 0)", y -> y.kindle(-1, 1, 0));
            refusedInBare(STATE, "kindle(0, 0, 0)", y -> y.kindle(0, 0, 0));
            refusedInBare(STATE, "kindle(0, 61, 0)", y -> y.kindle(0, 61, 0));
            refusedInBare(STATE, "kindle(0, 1, 2)", y -> y.kindle(0, 1, 2));
        });
        kindled();
    }

    private void kindled() {
        test("22 kindle: the fewest, and of several the least", () -> {
            fresh("b0;l9,0;s9,0;l9,0;");
            due("by any of three", x.kindle(2, 60, 1), 1);
            fresh("b0;l9,1;s9,0;l9,0;");
            due("by the second or the third", x.kindle(2, 60, 1), 2);
            fresh("b0;l4,0;d1,0;l4,0;");
            due("two", x.kindle(5, 1, 0), 2);
            due("which two", x.kindle(5, 1, 1), 5);
            fresh("b0;l4,0;l4,0;l4,0;l4,0;");
            due("one of four", x.kindle(15, 4, 1), 1);
            due("one of four, from within", x.kindle(15, 3, 1), 2);
            due("two of four", x.kindle(15, 2, 1), 5);
            due("all of four", x.kindle(15, 1, 1), 15);
        });
        test("22 kindle: all 8 by hand", () -> {
            fresh("b0;l1,0;l1,0;l1,0;l1,0;l1,0;l1,0;l1,0;l1,0;");
            due("how many", x.kindle(255, 1, 0), 8);
            due("which", x.kindle(255, 1, 1), 255);
            due("all but the last", x.kindle(127, 1, 0), 7);
            due("all but the last, which", x.kindle(127, 1, 1), 127);
        });
        test("22 kindle: fewer is ahead of the lesser bits", () -> {
            fresh("b0;l4,0;l4,0;l4,0;");
            x.swap(1, 2);
            due("the one between them", x.kindle(3, 2, 1), 4);
            due("both themselves", x.kindle(3, 1, 1), 3);
        });
        test("22 kindle: none by hand, when they are ASH, or will be", () -> {
            lit("b0;l8,0;s9,0;");
            due("they will be", x.kindle(3, 60, 0), 0);
            due("they will be, which", x.kindle(3, 60, 1), 0);
            x.hours(2);
            due("it is", x.kindle(1, 1, 1), 0);
            x.rake(0, 1);
            due("it is, and OUT", x.kindle(1, 1, 1), 0);
        });
        test("22 kindle: NONE, each as may not be", () -> {
            fresh("b0;d1,0;i1,0;g1,1;l1,0;s1,0;");
            x.rake(4, 1);
            due("a door", x.kindle(1, 60, 0), NONE);
            due("of iron", x.kindle(2, 60, 1), NONE);
            due("OUT", x.kindle(16, 60, 1), NONE);
            due("WET, dried too late by another", x.kindle(4, 60, 1), NONE);
            due("with one that may be", x.kindle(8 + 16, 60, 1), NONE);
            fresh("b0;g1,1;l5,0;");
            due("WET, dried by another", x.kindle(1, 60, 1), 2);
        });
        test("22 kindle: nothing changes", () -> {
            told("kindle(32, 60, 0)", y -> y.kindle(32, 60, 0));
            told("kindle(63, 60, 1)", y -> y.kindle(63, 60, 1));
        });
    }

    private void spare() {
        test("23 spare: there is no such THING", () -> {
            for (int thing : NO_THINGS) {
                refusedInFull(BAD, "spare(" + thing + ", 1)", y -> y.spare(thing, 1));
            }
            refusedInBare(BAD, "spare(0, 1)", y -> y.spare(0, 1));
            x = reading(EIGHT);
            due("spare(7, 1)", x.spare(7, 1), 0);
            due("spare(8, 1)", x.spare(8, 1), BAD);
        });
        test("23 spare: 1 to 30 HOURS", () -> {
            lit("b0;l9,0;s9,0;");
            due("behind 1", x.spare(1, 1), 1);
            lit("b0;g30,0;g30,20;g30,20;s9,14;");
            due("CAUGHT", x.when(3, 0), 30);
            due("29", x.spare(3, 29), 0);
            due("30", x.spare(3, 30), 1);
            for (int n : new int[] {0, -1, 31, 32, LEAST, MOST}) {
                refusedInFull(BAD, "spare(0, " + n + ")", y -> y.spare(0, n));
            }
        });
        test("23 spare: STATE, it is OUT, behind BAD", () -> {
            refusedInFull(STATE, "spare(3, 1)", y -> y.spare(3, 1));
            refusedInFull(STATE, "spare(3, 30)", y -> y.spare(3, 30));
            refusedInFull(BAD, "spare(3, 0)", y -> y.spare(3, 0));
            refusedInFull(BAD, "spare(3, 31)", y -> y.spare(3, 31));
        });
        test("23 spare: 0, it is not watered, and a LIT one needs 1", () -> {
            lit("b0;s9,0;d9,0;i9,0;g9,20;l1,0;");
            due("LIT now", x.spare(0, 1), 1);
            due("LIT now, 30", x.spare(0, 30), 1);
            due("a door", x.spare(1, 30), 0);
            due("of iron", x.spare(2, 30), 0);
            due("out of reach", x.spare(3, 30), 0);
            x.light(4);
            x.hours(1);
            due("ASH", x.spare(4, 30), 0);
        });
        test("23 spare: 20 at most, WET 20 at most, then NONE", () -> {
            // HEAT 3 in the first HOUR, then 2: 19 in 9 of them, so WET 20 is dry behind 10
            fresh("b1;l4,0;d1,0;s9,0;g30,0;");
            x.light(0);
            x.light(3);
            due("20", x.spare(2, 10), 20);
            due("NONE", x.spare(2, 11), NONE);
            fresh("b1;l4,0;d1,0;s9,5;g30,0;");
            x.light(0);
            x.light(3);
            due("to WET 20", x.spare(2, 10), 15);
            due("NONE by WET 20", x.spare(2, 11), NONE);
            fresh("b1;l4,0;d1,0;s9,20;g30,0;");
            x.light(0);
            x.light(3);
            due("WET 20 as it is", x.spare(2, 10), 0);
            due("NONE", x.spare(2, 11), NONE);
        });
        test("23 spare: nothing changes", () -> {
            told("spare(0, 30)", y -> y.spare(0, 30));
            told("spare(5, 30)", y -> y.spare(5, 30));
        });
    }

    private void laying() {
        test("24 laying: 1 to 30 HOURS", () -> {
            lit("b0;l4,0;d1,0;");
            due("behind 1", x.laying(1, 1), 1);
            lit("b0;g30,0;d1,0;");
            due("behind 29", x.laying(29, 1), 0);
            due("behind 30", x.laying(30, 1), 1);
            for (int n : new int[] {0, -1, 31, 32, LEAST, MOST}) {
                refusedInFull(BAD, "laying(" + n + ", 0)", y -> y.laying(n, 0));
                refusedInFull(BAD, "laying(" + n + ", 1)", y -> y.laying(n, 1));
            }
        });
        test("24 laying: what is 0 or 1", () -> {
            for (int what : NEITHER) {
                refusedInFull(BAD, "laying(1, " + what + ")", y -> y.laying(1, what));
            }
        });
        test("24 laying: no HEAP is STATE, ahead of BAD", () -> {
            refusedInBare(STATE, "laying(1, 0)", y -> y.laying(1, 0));
            refusedInBare(STATE, "laying(0, 0)", y -> y.laying(0, 0));
            refusedInBare(STATE, "laying(31, 0)", y -> y.laying(31, 0));
            refusedInBare(STATE, "laying(1, 2)", y -> y.laying(1, 2));
        });
        test("24 laying: NONE, there are not two, behind BAD", () -> {
            refused(() -> reading("b0;s9,0;"), NONE, "laying(1, 0) of 1", y -> y.laying(1, 0));
            refused(() -> reading("b0;s9,0;"), NONE, "laying(30, 1) of 1", y -> y.laying(30, 1));
            refused(() -> reading("b0;s9,0;"), BAD, "laying(31, 1) of 1", y -> y.laying(31, 1));
            refused(() -> reading("b0;s9,0;"), BAD, "laying(1, 2) of 1", y -> y.laying(1, 2));
            fresh("b0;s9,0;d1,0;");
            due("the pair of 2", x.laying(1, 0), 1);
            due("how many", x.laying(1, 1), 0);
        });
        test("24 laying: of several the first", () -> {
            x = reading(EIGHT);
            due("no fire", x.laying(30, 0), 1);
            x.light(7);
            due("all the same", x.laying(30, 0), 1);
            due("all", x.laying(30, 1), 8);
        });
        test("24 laying: the last pair, as no other does it within 2", () -> {
            fresh("b0;d1,0;d1,0;d1,0;d1,0;l1,0;s2,0;d1,0;l1,0;");
            x.light(5);
            due("the pair", x.laying(2, 0), 67);
            due("how many", x.laying(2, 1), 3);
        });
        test("24 laying: one of a pair may be OUT, and ASH counts, OUT or not", () -> {
            fresh("b0;l1,0;s9,0;");
            x.light(0);
            x.hours(1);
            x.rake(0, 1);
            due("how many", x.laying(1, 1), 1);
            due("the pair", x.laying(1, 0), 1);
        });
        test("24 laying: nothing changes", () -> {
            told("laying(30, 0)", y -> y.laying(30, 0));
            told("laying(30, 1)", y -> y.laying(30, 1));
        });
    }

    private void fits() {
        test("25 fits: there is no such THING", () -> {
            for (int thing : NO_THINGS) {
                refusedInFull(BAD, "fits(" + thing + ", 0, 0, 1, 0)", y -> y.fits(thing, 0, 0, 1, 0));
            }
            refusedInBare(BAD, "fits(0, 0, 0, 1, 0)", y -> y.fits(0, 0, 0, 1, 0));
        });
        test("25 fits: ROWS are 0 to 7", () -> {
            for (int row : new int[] {-1, 8, LEAST, MOST}) {
                refusedInFull(BAD, "fits(0, " + row + ", 0, 1, 0)", y -> y.fits(0, row, 0, 1, 0));
            }
            x = full();
            due("ROW 0", x.fits(0, 0, 0, 1, 2), 1 << 7);
            due("ROW 7", x.fits(0, 7, 0, 1, 2), 1 << 11);
        });
        test("25 fits: n is 1 to 12", () -> {
            fresh("b0;d7,0;");
            x.row(0, 2, 40);
            for (int i = 0; i < 40; i++) {
                x.set(0, i, 7);
            }
            due("1", x.fits(0, 0, 0, 1, 2), 1 << 7);
            due("12", x.fits(0, 0, 0, 12, 2), 1 << 7);
            x.set(0, 11, 8);
            due("11 but the twelfth", x.fits(0, 0, 0, 11, 2), 1 << 7);
            due("12 with the twelfth", x.fits(0, 0, 0, 12, 2), 0);
            for (int n : new int[] {0, -1, 13, 14, LEAST, MOST}) {
                due("n " + n + " of 40", x.fits(0, 0, 0, n, 2), BAD);
                refusedInFull(BAD, "fits(0, 0, 0, " + n + ", 0)", y -> y.fits(0, 0, 0, n, 0));
            }
        });
        test("25 fits: what is 0 to 3", () -> {
            for (int what : new int[] {-1, 4, 5, LEAST, MOST}) {
                refusedInFull(BAD, "fits(0, 0, 0, 1, " + what + ")", y -> y.fits(0, 0, 0, 1, what));
            }
        });
        test("25 fits: a ROW that is missing is NULL, behind BAD, ahead of PLACE", () -> {
            refusedInFull(NULL, "fits(0, 5, 0, 1, 0)", y -> y.fits(0, 5, 0, 1, 0));
            refusedInFull(NULL, "fits(0, 5, -1, 12, 3)", y -> y.fits(0, 5, -1, 12, 3));
            refusedInFull(BAD, "fits(6, 5, 0, 1, 0)", y -> y.fits(6, 5, 0, 1, 0));
            refusedInFull(BAD, "fits(0, 5, 0, 0, 0)", y -> y.fits(0, 5, 0, 0, 0));
            refusedInFull(BAD, "fits(0, 5, 0, 13, 0)", y -> y.fits(0, 5, 0, 13, 0));
            refusedInFull(BAD, "fits(0, 5, 0, 1, 4)", y -> y.fits(0, 5, 0, 1, 4));
            refusedInFull(BAD, "fits(0, 0, 9, 1, 4)", y -> y.fits(0, 0, 9, 1, 4));
            refusedInFull(BAD, "fits(0, 0, -1, 13, 0)", y -> y.fits(0, 0, -1, 13, 0));
        });
        test("25 fits: no such PLACE, below, beyond, of none, round", () -> {
            for (int i : new int[] {-1, 3, 4, 40, LEAST, MOST}) {
                refusedInFull(PLACE, "fits(0, 0, " + i + ", 1, 0)", y -> y.fits(0, 0, i, 1, 0));
            }
            refusedInFull(PLACE, "fits(0, 0, 0, 4, 0)", y -> y.fits(0, 0, 0, 4, 0));
            refusedInFull(PLACE, "fits(0, 0, 2, 2, 0)", y -> y.fits(0, 0, 2, 2, 0));
            refusedInFull(PLACE, "fits(0, 2, 0, 1, 0)", y -> y.fits(0, 2, 0, 1, 0));
            refusedInFull(PLACE, "fits(0, 0, most, 12, 0)", y -> y.fits(0, 0, MOST, 12, 0));
            refusedInFull(PLACE, "fits(0, 0, most - 5, 12, 0)", y -> y.fits(0, 0, MOST - 5, 12, 0));
        });
        test("25 fits: up to the end of the ROW", () -> {
            fresh("b0;d7,0;");
            x.row(0, 0, 40);
            for (int i = 28; i < 40; i++) {
                x.set(0, i, 7);
            }
            due("the last 12", x.fits(0, 0, 28, 12, 2), 1 << 7);
            due("one too far", x.fits(0, 0, 29, 12, 2), PLACE);
            due("the last", x.fits(0, 0, 39, 1, 2), 1 << 7);
            due("one too far", x.fits(0, 0, 40, 1, 2), PLACE);
            due("from one ahead", x.fits(0, 0, 27, 12, 2), 0);
        });
        test("25 fits: nothing changes but status()", () -> {
            for (int what = 0; what <= 3; what++) {
                int asked = what;
                told("fits(0, 0, 0, 3, " + what + ")", y -> y.fits(0, 0, 0, 3, asked));
                told("fits(1, 1, 0, 2, " + what + ")", y -> y.fits(1, 1, 0, 2, asked));
            }
        });
    }

    private void fitting() {
        test("25 fits: all of them, and none", () -> {
            fresh("b0;s7,3;");
            tell(x, 0, 0, 7, 7);
            tell(x, 1, 0, 6);
            due("all SORTS", x.fits(0, 0, 0, 2, 0), 62);
            due("all WETS", x.fits(0, 0, 0, 2, 1), (1 << 21) - 1);
            due("one of STUFFS", x.fits(0, 0, 0, 2, 2), 1 << 7);
            due("both WINDS", x.fits(0, 0, 0, 2, 3), 3);
            due("no SORTS", x.fits(0, 1, 0, 1, 0), 0);
            due("no WETS", x.fits(0, 1, 0, 1, 1), 0);
            due("no WINDS", x.fits(0, 1, 0, 1, 3), 0);
        });
        test("25 fits: STUFFS are 1 to 30", () -> {
            fresh("b0;d7,0;");
            tell(x, 0, 2, 0, 1, 30, 31, -1, LEAST, MOST);
            int[] wanted = {0, 2, 1 << 30, 0, 0, 0, 0};
            for (int i = 0; i < wanted.length; i++) {
                due("ITEM " + i, x.fits(0, 0, i, 1, 2), wanted[i]);
            }
            lit("b0;g7,0;");
            tell(x, 0, 2, 0, 29, 30);
            due("1 burns to 0", x.fits(0, 0, 0, 1, 2), 2);
            due("30 burns to 29", x.fits(0, 0, 1, 1, 2), 1 << 30);
            due("31 there is none", x.fits(0, 0, 2, 1, 2), 0);
        });
        test("25 fits: WETS are 0 to 20", () -> {
            lit("b0;g30,0;s9,0;");
            // dry it catches behind 1, by WET 1 or 2 behind 2, .. by 19 or 20 behind 11
            tell(x, 0, 0, 9, 9, 9, 9, 9, 9, 9, 9, 9, 9, 9, 7, 9);
            due("19 and 20", x.fits(1, 0, 0, 12, 1), 1 << 19 | 1 << 20);
            due("all, by what is not yet", x.fits(1, 0, 0, 1, 1), (1 << 21) - 1);
            tell(x, 1, 0, 9, 7);
            due("0", x.fits(1, 1, 0, 2, 1), 1);
        });
        test("25 fits: SORTS are 1 to 5, and a LIT one that would not burn is not LIT", () -> {
            lit("b0;s9,0;s9,0;");
            tell(x, 0, 0, 9, 7, 8, 5, 0);
            due("as it is", x.fits(0, 0, 0, 1, 0), 1 << 4 | 1 << 5);
            due("2 less", x.fits(0, 0, 1, 1, 0), 1 << 1);
            due("1 less", x.fits(0, 0, 2, 1, 0), 1 << 2);
            due("4 less", x.fits(0, 0, 3, 1, 0), 1 << 3);
            due("none so", x.fits(0, 0, 4, 1, 0), 0);
            tell(x, 1, 0, 9, 9, 9);
            due("and the other then is not lit", x.fits(0, 1, 0, 3, 0), 1 << 4 | 1 << 5);
        });
        test("25 fits: one of ASH, and one that is OUT", () -> {
            lit("b0;l1,0;s9,0;");
            x.hours(1);
            tell(x, 0, 0, 0, 0);
            due("SORTS of ASH", x.fits(0, 0, 0, 2, 0), 62);
            x.rake(1, 1);
            tell(x, 1, 0, 9, 9);
            due("SORTS of one that is OUT", x.fits(1, 1, 0, 2, 0), 62);
            due("WETS of it", x.fits(1, 1, 0, 2, 1), (1 << 21) - 1);
        });
        test("25 fits: WINDS, down alone, up alone", () -> {
            fresh("b0;s9,0;i9,0;s9,0;");
            x.light(0);
            tell(x, 0, 0, 9, 7);
            tell(x, 1, 0, 9, 9);
            due("up alone", x.fits(2, 0, 0, 2, 3), 2);
            due("down alone", x.fits(2, 1, 0, 2, 3), 1);
        });
    }

    private void fraction(String what, int thing, int n, int c, int above, int below) {
        due(what + ", above", x.rain(thing, n, c, 0), above);
        due(what + ", below", x.rain(thing, n, c, 1), below);
    }

    private void rain() {
        test("26 rain: there is no such THING", () -> {
            for (int thing : NO_THINGS) {
                refusedInFull(BAD, "rain(" + thing + ", 0, 0, 0)", y -> y.rain(thing, 0, 0, 0));
            }
            refusedInBare(BAD, "rain(0, 0, 0, 0)", y -> y.rain(0, 0, 0, 0));
            x = reading(EIGHT);
            fraction("the last of 8", 7, 0, 5, 0, 1);
            due("rain(8, 0, 5, 0)", x.rain(8, 0, 5, 0), BAD);
        });
        test("26 rain: behind 0 to 60 HOURS", () -> {
            lit("b0;g30,0;g30,20;g30,20;g27,20;");
            fraction("behind 59", 3, 59, 0, 0, 1);
            fraction("behind 60", 3, 60, 0, 1, 1);
            fraction("behind 0", 0, 0, 0, 0, 1);
            lit("b0;l4,0;");
            fraction("behind 1", 0, 1, 4, 3, 5);
            x.hours(1);
            fraction("behind 0, ASH", 0, 0, 10, 1, 1);
            for (int n : new int[] {-1, 61, 62, LEAST, MOST}) {
                refusedInFull(BAD, "rain(0, " + n + ", 5, 0)", y -> y.rain(0, n, 5, 0));
            }
        });
        test("26 rain: by 0 to 10 of 10", () -> {
            lit("b0;l4,0;");
            fraction("by 0", 0, 1, 0, 1, 1);
            fraction("by 1", 0, 1, 1, 9, 10);
            fraction("by 9", 0, 1, 9, 1, 10);
            fraction("by 10", 0, 1, 10, 0, 1);
            for (int c : new int[] {-1, 11, 12, LEAST, MOST}) {
                refusedInFull(BAD, "rain(0, 1, " + c + ", 0)", y -> y.rain(0, 1, c, 0));
            }
        });
        test("26 rain: what is 0 or 1", () -> {
            for (int what : NEITHER) {
                refusedInFull(BAD, "rain(0, 1, 5, " + what + ")", y -> y.rain(0, 1, 5, what));
            }
        });
        test("26 rain: lowest terms, and 0 is 0 by 1", () -> {
            lit("b0;l4,0;d1,0;");
            fraction("never", 1, 60, 5, 0, 1);
            fraction("one half", 0, 60, 5, 1, 2);
            lit("b0;l1,0;l1,0;l1,0;l1,0;l1,0;l1,0;l1,0;l1,0;");
            fraction("all 8 dry, by 5", 7, 60, 5, 1, 256);
            fraction("all 8 dry, by 1", 7, 60, 1, 43046721, 100000000);
            fraction("all 8 dry, by 2", 7, 60, 2, 65536, 390625);
        });
        test("26 rain: 3 of water, WET 20 at most, and it is not LIT any more", () -> {
            // dry it catches behind 1 and is ASH behind 2; by 3 it catches behind 3, ASH behind 4
            lit("b0;g30,0;l1,0;");
            fraction("ASH behind 1", 1, 1, 5, 0, 1);
            fraction("ASH behind 2", 1, 2, 5, 1, 4);
            fraction("ASH behind 3", 1, 3, 5, 1, 4);
            fraction("ASH behind 4", 1, 4, 5, 1, 2);
            lit("b0;g30,0;l1,1;");
            fraction("WET 1 and 3, ASH behind 3", 1, 3, 5, 1, 4);
            fraction("WET 1 and 3, ASH behind 4", 1, 4, 5, 1, 2);
            lit("b0;g30,0;l1,18;");
            fraction("WET 18 is ASH behind 11", 1, 11, 5, 1, 4);
            fraction("WET 20 is ASH behind 12", 1, 12, 5, 1, 2);
        });
        test("26 rain: one that is OUT is not watered", () -> {
            fresh("b0;l1,0;l1,0;");
            x.light(0);
            x.hours(1);
            x.rake(0, 1);
            fraction("ASH, OUT", 0, 0, 5, 1, 1);
            fresh("b0;d1,0;l4,0;s9,0;");
            x.light(1);
            x.rake(2, 1);
            fraction("beside one that is OUT", 1, 1, 5, 1, 2);
            fraction("OUT itself", 2, 60, 5, 0, 1);
        });
        test("26 rain: nothing changes", () -> {
            told("rain(5, 60, 5, 0)", y -> y.rain(5, 60, 5, 0));
            told("rain(5, 60, 5, 1)", y -> y.rain(5, 60, 5, 1));
        });
    }

    private void years(int n, int seed, int ash, int smoke) {
        due("ASH by " + seed + " behind " + n, x.drawn(n, seed, 0), ash);
        due("SMOKE by " + seed + " behind " + n, x.drawn(n, seed, 1), smoke);
    }

    private void drawn() {
        test("27 drawn: 0 to 60 HOURS", () -> {
            fresh("b0;g30,0;d1,0;s30,0;d1,0;g30,0;d1,0;s30,0;d1,0;");
            years(0, 51, 0, 0);
            years(59, 51, 3, 207);
            years(60, 51, 4, 210);
            for (int n : new int[] {-1, 61, 62, LEAST, MOST}) {
                refusedInFull(BAD, "drawn(" + n + ", 1, 0)", y -> y.drawn(n, 1, 0));
            }
        });
        test("27 drawn: a SEED is 1 to 999999", () -> {
            fresh("b0;g30,0;d1,0;s30,0;d1,0;g30,0;d1,0;s30,0;d1,0;");
            years(1, 1, 0, 0);
            years(30, 1, 1, 109);
            years(60, 1, 3, 206);
            years(1, 999999, 0, 3);
            years(30, 999999, 2, 153);
            years(60, 999999, 4, 210);
            for (int seed : new int[] {0, -1, 1000000, 1000001, LEAST, MOST}) {
                refusedInFull(BAD, "drawn(0, " + seed + ", 0)", y -> y.drawn(0, seed, 0));
            }
        });
        test("27 drawn: each is LIT by even X alone, watered by 5, WIND by 7", () -> {
            fresh("b1;s9,0;i4,2;g12,0;l9,3;s20,0;d3,0;g30,1;");
            years(12, 1, 1, 17);
            years(20, 1, 3, 49);
            years(60, 1, 4, 81);
            years(12, 2, 2, 41);
            years(60, 2, 4, 123);
            years(59, 7, 4, 108);
            years(60, 7, 4, 111);
            years(60, 51, 3, 103);
            years(60, 12345, 4, 51);
            years(12, 999998, 0, 0);
            years(60, 999998, 4, 135);
            years(60, 999999, 4, 87);
        });
        test("27 drawn: what is 0 or 1", () -> {
            for (int what : NEITHER) {
                refusedInFull(BAD, "drawn(0, 1, " + what + ")", y -> y.drawn(0, 1, what));
            }
        });
        test("27 drawn: no HEAP is STATE, ahead of BAD", () -> {
            refusedInBare(STATE, "drawn(0, 1, 0)", y -> y.drawn(0, 1, 0));
            refusedInBare(STATE, "drawn(-1, 1, 0)", y -> y.drawn(-1, 1, 0));
            refusedInBare(STATE, "drawn(61, 1, 0)", y -> y.drawn(61, 1, 0));
            refusedInBare(STATE, "drawn(0, 0, 0)", y -> y.drawn(0, 0, 0));
            refusedInBare(STATE, "drawn(0, 1000000, 0)", y -> y.drawn(0, 1000000, 0));
            refusedInBare(STATE, "drawn(0, 1, 2)", y -> y.drawn(0, 1, 2));
        });
        test("27 drawn: of no HOURS there is the ASH that is, and no SMOKE", () -> {
            lit("b0;s1,0;s9,0;");
            x.hours(2);
            due("SMOKE so far", x.count(7), 2);
            years(0, 1, 1, 0);
        });
        test("27 drawn: watered by 0 it is not LIT any more, and can be LIT again", () -> {
            // seed 20: X is 336140, which 2, 4, 5 and 7 divide
            lit("b0;g30,0;");
            years(1, 20, 0, 0);
            fresh("b0;g30,0;");
            years(1, 20, 0, 3);
        });
        test("27 drawn: one that is OUT is neither LIT nor watered", () -> {
            fresh("b0;g30,0;");
            x.rake(0, 1);
            years(60, 20, 0, 0);
            years(60, 999999, 0, 0);
        });
        test("27 drawn: one that may not be LIT is watered, if X by 5 leaves 0", () -> {
            // seed 10: X is 168070, by 4 leaves 2, then 677367807 (odd, by 5 leaves 2)
            fresh("b0;d1,0;");
            years(60, 10, 0, 0);
            lit("b0;l1,0;");
            years(1, 10, 0, 0);
            fresh("b0;l1,0;");
            years(1, 10, 1, 0);
        });
        test("27 drawn: nothing changes", () -> {
            told("drawn(60, 1, 0)", y -> y.drawn(60, 1, 0));
            told("drawn(60, 999999, 1)", y -> y.drawn(60, 999999, 1));
        });
    }

    private void images() {
        test("28 image: IMAGES are 0 and 1", () -> {
            for (int k : NEITHER) {
                refusedInFull(BAD, "image(" + k + ")", y -> y.image(k));
            }
            fresh("b0;s9,0;");
            due("image(0)", x.image(0), 1);
            due("image(1)", x.image(1), 1);
        });
        test("28 image: STATE, no HEAP, behind BAD", () -> {
            refusedInBare(STATE, "image(0)", y -> y.image(0));
            refusedInBare(STATE, "image(1)", y -> y.image(1));
            for (int k : NEITHER) {
                refusedInBare(BAD, "image(" + k + ")", y -> y.image(k));
            }
        });
        test("28 image: it is no ACT, and all but the IMAGE stays", () -> {
            for (Look look : new Look[] {Look.AT_WHAT_STANDS, Look.AT_WHAT_IS_UNDONE}) {
                BonfireHeaps asked = full();
                due("image(0)", asked.image(0), 1);
                due("status()", asked.status(), 5);
                same("image(0)", look.of(asked), look.of(full()));
            }
        });
        test("28 image: another in place of the one before, the other IMAGE stays", () -> {
            fresh("b0;d9,1;");
            x.image(0);
            x.image(1);
            x.water(0, 3);
            x.image(0);
            x.water(0, 9);
            x.restore(0);
            due("WET of 0", x.thing(0, 1), 4);
            x.restore(1);
            due("WET of 1", x.thing(0, 1), 1);
        });
        test("29 restore: IMAGES are 0 and 1, ahead of STATE", () -> {
            for (int k : NEITHER) {
                refusedInFull(BAD, "restore(" + k + ")", y -> y.restore(k));
                refusedInBare(BAD, "restore(" + k + ")", y -> y.restore(k));
            }
        });
        test("29 restore: STATE, none was kept", () -> {
            refusedInBare(STATE, "restore(0)", y -> y.restore(0));
            refusedInBare(STATE, "restore(1)", y -> y.restore(1));
            refused(() -> reading(EIGHT), STATE, "restore(0) of a HEAP", y -> y.restore(0));
            refused(() -> reading(EIGHT), STATE, "restore(1) of a HEAP", y -> y.restore(1));
            fresh("b0;d9,1;");
            x.image(1);
            due("restore(0), 1 was kept", x.restore(0), STATE);
            due("restore(1)", x.restore(1), 1);
            fresh("b0;d9,1;");
            x.image(0);
            due("restore(1), 0 was kept", x.restore(1), STATE);
            due("restore(0)", x.restore(0), 1);
        });
        restored();
    }

    private void restored() {
        test("29 restore: all of the HEAP, and no ACT", () -> {
            x = full();
            x.image(1);
            feed(x, "d1,1;d1,1;d1,1;d1,1;d1,1;");
            due("another HEAP", x.heap(), 7);
            x.light(0);
            x.wind();
            due("restore(1)", x.restore(1), 1);
            int[] wanted = {4, 6, 2, 1, 1, 8, 0, 2, 0, 0};
            for (int what = 0; what <= 9; what++) {
                due("count(" + what + ")", x.count(what), wanted[what]);
            }
            int[][] things = {{5, 0, 0}, {6, 0, 5}, {9, 1, 2}, {12, 7, 3}, {4, 2, 4}, {5, 0, 1}};
            for (int thing = 0; thing < 6; thing++) {
                due("KIND of " + thing, x.kind(thing), thing % 5 + 1);
                for (int what = 0; what < 3; what++) {
                    due("thing(" + thing + ", " + what + ")", x.thing(thing, what), things[thing][what]);
                }
            }
            due("undo()", x.undo(), STATE);
        });
        test("29 restore: the IMAGE stays as it was, whatever comes of the HEAP", () -> {
            lit("b0;g9,0;");
            x.image(0);
            for (int i = 0; i < 3; i++) {
                x.hours(2);
                x.wind();
                x.rake(0, 1);
                due("restore(0)", x.restore(0), 1);
                due("STUFF", x.thing(0, 0), 9);
                due("HOUR", x.count(2), 0);
                due("WIND", x.count(3), 0);
                due("LIT", x.count(4), 1);
                due("OUT", x.count(5), 0);
                due("ACTS", x.count(8), 0);
            }
        });
        test("29 restore: ROWS, the tape, THE TRACE, FAULT and status() stay", () -> {
            x = full();
            x.restore(1);
            due("THINGS", x.count(1), 2);
            due("ROWS", x.count(0), 4);
            due("bytes", x.count(9), 13);
            due("trace(0)", x.trace(0), 12);
            due("fault()", x.fault(), 3);
            due("status()", x.status(), 5);
            due("heap() of the tape", x.heap(), 2);
            due("its KIND", x.kind(0), 3);
        });
    }
}
