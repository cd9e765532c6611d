import java.util.function.IntFunction;
import java.util.function.Supplier;

/** The boundaries of HOURS and of the other ACTS: promises 9 to 15. */
public final class ActEdgeTests extends Edges {
    private static final String EIGHT = "b0;s9,0;s9,0;s9,0;s9,0;s9,0;s9,0;s9,0;s9,0;";
    private static final int[] NO_THINGS = {-1, 6, 7, 8, LEAST, MOST};

    public static void main(String[] args) {
        ActEdgeTests tests = new ActEdgeTests();
        tests.hours();
        tests.lastHour();
        tests.beyondTheLastHour();
        tests.burning();
        tests.catching();
        tests.light();
        tests.water();
        tests.rake();
        tests.swapAndWind();
        tests.undo();
        tests.kept();
        tests.end();
    }

    private void hours() {
        test("9 hours: 1 to 24", () -> {
            fresh("b0;g30,0;");
            x.light(0);
            due("hours(1)", x.hours(1), 1);
            due("HOUR", x.count(2), 1);
            due("STUFF", x.thing(0, 0), 29);
            due("hours(24)", x.hours(24), 1);
            due("HOUR", x.count(2), 25);
            due("STUFF", x.thing(0, 0), 5);
            for (int n : new int[] {0, -1, 25, 26, LEAST, MOST}) {
                refusedInFull(BAD, "hours(" + n + ")", y -> y.hours(n));
            }
        });
        test("9 hours: no HEAP is STATE, ahead of BAD", () -> {
            for (int n : new int[] {1, 24, 0, -1, 25, LEAST, MOST}) {
                refusedInBare(STATE, "hours(" + n + ")", y -> y.hours(n));
            }
        });
        test("9 hours: an ACT each", () -> {
            fresh("b0;g30,0;");
            x.light(0);
            x.hours(3);
            due("ACTS", x.count(8), 4);
            due("undo()", x.undo(), 3);
            due("HOUR", x.count(2), 2);
            due("STUFF", x.thing(0, 0), 28);
            due("SMOKE", x.count(7), 6);
        });
        test("9 hours: an HOUR passes though nothing is LIT", () -> {
            fresh("b0;s9,5;");
            due("hours(2)", x.hours(2), 0);
            due("HOUR", x.count(2), 2);
            due("ACTS", x.count(8), 2);
            due("WET", x.thing(0, 1), 5);
            due("SMOKE", x.count(7), 0);
        });
    }

    /** In 416 calls to HOUR 9984, and then so many more. */
    private static BonfireHeaps late(int more) {
        BonfireHeaps x = reading("b1;s9,0;i4,3;");
        for (int i = 0; i < 416; i++) {
            x.hours(24);
        }
        if (more > 0) {
            x.hours(more);
        }
        return x;
    }

    private void lastHour() {
        test("9 hours: up to HOUR 9999", () -> {
            x = late(0);
            due("HOUR", x.count(2), 9984);
            due("hours(15)", x.hours(15), 0);
            due("HOUR", x.count(2), 9999);
            x = late(14);
            due("hours(1) at 9998", x.hours(1), 0);
            due("HOUR", x.count(2), 9999);
        });
        test("9 hours: beyond HOUR 9999 it is FULL, and none of them passes", () -> {
            fullAt(0, 16);
            fullAt(0, 24);
            fullAt(14, 2);
            fullAt(15, 1);
            fullAt(15, 24);
        });
        test("9 hours: 24 of them from 9975, not from 9976", () -> {
            x = late(0);
            for (int i = 0; i < 9; i++) {
                x.undo();
            }
            due("hours(24) at 9975", x.hours(24), 0);
            due("HOUR", x.count(2), 9999);
            x = late(0);
            for (int i = 0; i < 8; i++) {
                x.undo();
            }
            due("hours(24) at 9976", x.hours(24), FULL);
            due("HOUR", x.count(2), 9976);
            due("hours(23) at 9976", x.hours(23), 0);
        });
        test("9 hours: BAD is ahead of FULL", () -> {
            x = late(15);
            for (int n : new int[] {0, -1, 25, MOST, LEAST}) {
                due("hours(" + n + ")", x.hours(n), BAD);
            }
            due("HOUR", x.count(2), 9999);
        });
        test("9 hours: FULL ends with undo(), with restore(), with another HEAP", () -> {
            x = late(14);
            x.image(0);
            x.hours(1);
            due("undo()", x.undo(), 23);
            due("hours(2) at 9998", x.hours(2), FULL);
            due("hours(1) at 9998", x.hours(1), 0);
            due("hours(1) at 9999", x.hours(1), FULL);
            x.restore(0);
            due("hours(1) behind restore", x.hours(1), 0);
            due("hours(1) at 9999 again", x.hours(1), FULL);
            due("another ACT", x.wind(), 0);
            feed(x, "b0;s1,0;");
            x.heap();
            due("hours(24) of another", x.hours(24), 0);
        });
    }

    private void beyondTheLastHour() {
        test("18 to 27: what is FORETOLD has no last HOUR", () -> {
            x = late(15);
            x.light(0);
            due("ahead(0, 2, 0)", x.ahead(0, 2, 0), 5);
            due("later(60, 1)", x.later(60, 1), 5);
            due("when(0, 1)", x.when(0, 1), 5);
            due("dead(0)", x.dead(0), 5);
            due("kindle(1, 60, 1)", x.kindle(1, 60, 1), 0);
            due("spare(0, 30)", x.spare(0, 30), 1);
            due("laying(30, 1)", x.laying(30, 1), 1);
            due("rain(0, 60, 1, 0)", x.rain(0, 60, 1, 0), 9);
            due("drawn(0, 1, 0)", x.drawn(0, 1, 0), 0);
            due("HOUR", x.count(2), 9999);
        });
    }

    private void fullAt(int more, int n) {
        x = late(more);
        String call = "hours(" + n + ") at " + (9984 + more);
        // status() is 3 then
        x.as(0, 5);
        due(call, x.hours(n), FULL);
        due("status() behind " + call, x.status(), 3);
        due("HOUR behind " + call, x.count(2), 9984 + more);
        due("ACTS behind " + call, x.count(8), 24);
        due("WET behind " + call, x.thing(1, 1), 3);
        due("undo() behind " + call, x.undo(), 23);
        due("HOUR then", x.count(2), 9983 + more);
    }

    /** STUFF of one that is LIT, hour by hour; at 0 it is ASH and not LIT any more. */
    private void burnsDown(String sort, int... stuffs) {
        fresh("b0;" + sort + stuffs[0] + ",0;");
        x.light(0);
        for (int h = 1; h < stuffs.length; h++) {
            String what = sort + stuffs[0] + " behind " + h;
            due(what, x.hours(1), stuffs[h] == 0 ? 0 : 1);
            due("STUFF of " + what, x.thing(0, 0), stuffs[h]);
            due("ASH of " + what, x.count(6), stuffs[h] == 0 ? 1 : 0);
        }
    }

    private void burning() {
        test("9 hours: a stick has 2 less, 0 at least, and is ASH then", () -> {
            burnsDown("s", 1, 0, 0);
            burnsDown("s", 2, 0, 0);
            burnsDown("s", 3, 1, 0, 0);
            burnsDown("s", 4, 2, 0, 0);
            burnsDown("s", 30, 28, 26);
        });
        test("9 hours: a green one has half of that less", () -> {
            burnsDown("g", 1, 0, 0);
            burnsDown("g", 2, 1, 0, 0);
            burnsDown("g", 3, 2, 1, 0);
        });
        test("9 hours: a letter has twice that less, 0 at least", () -> {
            burnsDown("l", 1, 0, 0);
            burnsDown("l", 3, 0, 0);
            burnsDown("l", 4, 0, 0);
            burnsDown("l", 5, 1, 0);
            burnsDown("l", 8, 4, 0);
            burnsDown("l", 9, 5, 1, 0);
        });
        test("9 hours: SMOKE for each that is LIT as it begins, its last HOUR too", () -> {
            smokes("s1,0;", 1, 1);
            smokes("s3,0;", 2, 2);
            smokes("g1,0;", 3, 3);
            smokes("g2,0;", 6, 6);
            smokes("l9,0;", 0, 0);
            fresh("b0;s9,0;d9,0;d9,0;g9,0;d9,0;d9,0;l9,0;");
            x.light(0);
            x.light(3);
            x.light(6);
            x.hours(1);
            due("of all three", x.count(7), 4);
        });
        test("9 hours: one that catches has neither less STUFF nor SMOKE in that HOUR", () -> {
            fresh("b0;l30,0;g9,0;");
            x.light(0);
            due("it catches", x.hours(1), 3);
            due("STUFF", x.thing(1, 0), 9);
            due("SMOKE", x.count(7), 0);
            x.hours(1);
            due("STUFF then", x.thing(1, 0), 8);
            due("SMOKE then", x.count(7), 3);
        });
        test("9 hours: all by what there is as it begins", () -> {
            fresh("b0;l1,0;s9,0;s9,0;");
            x.light(0);
            due("lit by one that is ASH then, the third not yet", x.hours(1), 2);
            due("the third behind 2", x.hours(1), 6);
            fresh("b0;s9,0;s9,0;l1,0;");
            x.light(2);
            due("from above as from below", x.hours(1), 2);
            due("the first behind 2", x.hours(1), 3);
        });
        test("9 hours: one that is ASH gives no HEAT and is not LIT again", () -> {
            fresh("b0;l4,0;g30,0;s9,20;");
            x.light(0);
            x.light(1);
            x.hours(1);
            due("ASH", x.count(6), 1);
            due("HEAT of what is beside it", x.thing(1, 5), 0);
            due("HEAT of ASH itself", x.thing(0, 5), 2);
            due("LIT behind 5 more", x.hours(5), 2);
        });
    }

    private void smokes(String thing, int all, int later) {
        fresh("b0;" + thing);
        x.light(0);
        x.hours(3);
        due("SMOKE of " + thing, x.count(7), all);
        x.hours(5);
        due("SMOKE of " + thing + " later", x.count(7), later);
    }

    private void catching() {
        test("9 hours: WET is less by the HEAT, 0 at least", () -> {
            fresh("b0;g30,0;d9,1;");
            x.light(0);
            x.hours(1);
            due("1 less 2", x.thing(1, 1), 0);
            fresh("b0;g30,0;i9,3;");
            x.light(0);
            x.hours(1);
            due("3 less 2, of iron", x.thing(1, 1), 1);
            x.hours(1);
            due("1 less 2, of iron", x.thing(1, 1), 0);
        });
        test("9 hours: WET 0 as it began; one that is dry by then catches an HOUR later", () -> {
            fresh("b0;g30,0;s9,2;");
            x.light(0);
            due("dried", x.hours(1), 1);
            due("WET", x.thing(1, 1), 0);
            due("caught", x.hours(1), 3);
            fresh("b0;g30,0;s9,1;");
            x.light(0);
            due("1 less 2", x.hours(1), 1);
            due("then", x.hours(1), 3);
            fresh("b0;g30,0;s9,0;");
            x.light(0);
            due("at once", x.hours(1), 3);
        });
        test("9 hours: HEAT 2 or more lights, HEAT 1 does not", () -> {
            fresh("b1;g30,0;d9,0;s9,0;");
            x.light(0);
            due("HEAT 1 by wind", x.thing(2, 5), 1);
            due("not by 24 HOURS", x.hours(24), 1);
            fresh("b0;g30,0;i9,0;s9,0;");
            x.light(0);
            due("HEAT 1 by iron", x.thing(2, 5), 1);
            due("not by 24 HOURS", x.hours(24), 1);
            fresh("b1;g30,0;i9,0;s9,0;");
            x.light(0);
            due("HEAT 2 by both", x.thing(2, 5), 2);
            due("by 1 HOUR", x.hours(1), 5);
        });
        test("9 hours: only a KIND that burns catches", () -> {
            fresh("b0;d9,0;s30,0;i9,0;");
            x.light(1);
            due("neither a door nor iron", x.hours(3), 2);
            fresh("b0;l9,0;s30,0;g9,0;");
            x.light(1);
            due("a letter and a green one", x.hours(1), 7);
            fresh("b0;s9,0;s30,0;");
            x.light(1);
            due("a stick", x.hours(1), 3);
        });
        test("9 hours: nothing comes of one that is OUT, or to it", () -> {
            fresh("b1;s9,0;g30,0;s9,4;");
            x.light(1);
            x.rake(0, 1);
            x.rake(2, 1);
            due("it does not catch", x.hours(3), 2);
            due("nor dry", x.thing(2, 1), 4);
            x.rake(1, 1);
            x.rake(0, 0);
            due("none by one that was LIT", x.hours(3), 0);
            due("its STUFF", x.thing(1, 0), 27);
            due("SMOKE", x.count(7), 9);
        });
        test("9 hours: one that is OUT keeps its PLACE between the others", () -> {
            fresh("b0;s9,0;s9,0;s9,0;");
            x.light(0);
            x.rake(1, 1);
            due("not over it", x.hours(4), 1);
        });
    }

    /** A call on a THING is BAD for each that there is not, whatever else would be refused. */
    private void noSuchThing(String call, IntFunction<Call> made) {
        for (int thing : NO_THINGS) {
            refusedInFull(BAD, call + " of " + thing, made.apply(thing));
        }
        refused(() -> reading(EIGHT), BAD, call + " of 8", made.apply(8));
        refused(() -> reading("b0;s9,0;"), BAD, call + " of 1", made.apply(1));
        refusedInBare(BAD, call + " of 0", made.apply(0));
    }

    private static Supplier<BonfireHeaps> behind(String text, Call... calls) {
        return () -> {
            BonfireHeaps x = reading(text);
            for (Call call : calls) {
                call.on(x);
            }
            return x;
        };
    }

    private void light() {
        test("10 light: there is no such THING", () -> noSuchThing("light", t -> y -> y.light(t)));
        test("10 light: the first and the last of 8, of 1", () -> {
            x = reading(EIGHT);
            due("light(7)", x.light(7), 128);
            due("light(0)", x.light(0), 129);
            due("ACTS", x.count(8), 2);
            x = reading("b0;s9,0;");
            due("light(0) of 1", x.light(0), 1);
        });
        test("10 light: STATE, it is LIT", () -> {
            refusedInFull(STATE, "light(0)", y -> y.light(0));
            refused(behind("b0;l9,0;s9,0;", y -> y.light(0), y -> y.hours(1)), STATE, "light(1), caught",
                y -> y.light(1));
        });
        test("10 light: STATE, it is OUT", () -> {
            refused(behind("b0;l9,0;s9,0;", y -> y.rake(1, 1)), STATE, "light(1)", y -> y.light(1));
            refused(behind("b0;l9,0;s9,0;", y -> y.light(1), y -> y.rake(1, 1)), STATE, "light(1), was LIT",
                y -> y.light(1));
        });
        test("10 light: STATE, it would not burn", () -> {
            refused(behind("b0;d9,0;i9,0;"), STATE, "light(0), a door", y -> y.light(0));
            refused(behind("b0;d9,0;i9,0;"), STATE, "light(1), of iron", y -> y.light(1));
        });
        test("10 light: STATE, it has no STUFF", () -> {
            refused(behind("b0;l4,0;", y -> y.light(0), y -> y.hours(1)), STATE, "light(0)", y -> y.light(0));
            refused(behind("b0;s1,0;", y -> y.light(0), y -> y.hours(1)), STATE, "light(0)", y -> y.light(0));
        });
        test("10 light: STATE, it is WET, by 1 or by 20", () -> {
            refused(behind("b0;s9,1;"), STATE, "light(0), WET 1", y -> y.light(0));
            refused(behind("b0;g9,20;"), STATE, "light(0), WET 20", y -> y.light(0));
            refused(behind("b0;l9,0;", y -> y.water(0, 1)), STATE, "light(0), watered", y -> y.light(0));
        });
        test("10 light: once none of these is so any more it is LIT", () -> {
            fresh("b0;s9,2;g30,0;d9,0;");
            x.rake(0, 1);
            x.rake(0, 0);
            x.light(1);
            x.hours(1);
            due("dry and laid on again", x.light(0), 3);
            x.rake(0, 1);
            x.rake(0, 0);
            due("raked out and laid on again", x.light(0), 3);
            fresh("b0;l1,0;");
            due("of STUFF 1", x.light(0), 1);
        });
    }

    private void water() {
        test("11 water: there is no such THING", () -> {
            noSuchThing("water by 1", t -> y -> y.water(t, 1));
            noSuchThing("water by 0", t -> y -> y.water(t, 0));
        });
        test("11 water: by 1 to 20", () -> {
            fresh(EIGHT);
            due("water(0, 1)", x.water(0, 1), 1);
            due("water(7, 20)", x.water(7, 20), 20);
            for (int n : new int[] {0, -1, 21, 22, LEAST, MOST}) {
                refusedInFull(BAD, "water(0, " + n + ")", y -> y.water(0, n));
            }
        });
        test("11 water: WET is 20 at most, and it is an ACT all the same", () -> {
            wetThen(19, 1, 20);
            wetThen(18, 1, 19);
            wetThen(19, 2, 20);
            wetThen(1, 20, 20);
            wetThen(0, 20, 20);
            wetThen(20, 1, 20);
            wetThen(20, 20, 20);
        });
        test("11 water: STATE, it is OUT, behind BAD", () -> {
            refusedInFull(STATE, "water(3, 1)", y -> y.water(3, 1));
            refusedInFull(STATE, "water(3, 20)", y -> y.water(3, 20));
            refusedInFull(BAD, "water(3, 0)", y -> y.water(3, 0));
            refusedInFull(BAD, "water(3, 21)", y -> y.water(3, 21));
        });
        test("11 water: it is not LIT any more, the others are", () -> {
            fresh(EIGHT);
            x.light(0);
            x.light(1);
            x.light(7);
            due("water(1, 1)", x.water(1, 1), 1);
            due("LIT", x.count(4), 129);
            due("undo()", x.undo(), 3);
            due("LIT again", x.count(4), 131);
        });
        test("11 water: a door, one of iron, ASH", () -> {
            fresh("b0;d9,0;i9,3;l1,0;");
            x.light(2);
            x.hours(1);
            due("a door", x.water(0, 2), 2);
            due("of iron", x.water(1, 2), 3);
            due("ASH", x.water(2, 2), 2);
        });
    }

    private void wetThen(int wet, int n, int then) {
        fresh("b0;d9," + wet + ";");
        due("water(0, " + n + ") of WET " + wet, x.water(0, n), then);
        due("WET", x.thing(0, 1), then);
        due("ACTS", x.count(8), 1);
        due("undo()", x.undo(), 0);
        due("WET again", x.thing(0, 1), wet);
    }

    private void rake() {
        test("12 rake: there is no such THING", () -> {
            noSuchThing("rake out", t -> y -> y.rake(t, 1));
            noSuchThing("lay on", t -> y -> y.rake(t, 0));
        });
        test("12 rake: 0 or 1", () -> {
            for (int out : new int[] {-1, 2, LEAST, MOST}) {
                refusedInFull(BAD, "rake(0, " + out + ")", y -> y.rake(0, out));
                refusedInFull(BAD, "rake(3, " + out + ")", y -> y.rake(3, out));
            }
        });
        test("12 rake: STATE, it is so", () -> {
            refusedInFull(STATE, "rake(3, 1)", y -> y.rake(3, 1));
            refusedInFull(STATE, "rake(0, 0)", y -> y.rake(0, 0));
            refused(behind("b0;s9,0;", y -> y.rake(0, 1), y -> y.rake(0, 0)), STATE, "rake(0, 0) again",
                y -> y.rake(0, 0));
        });
        test("12 rake: none, all and the last are OUT", () -> {
            fresh(EIGHT);
            int bits = 0;
            for (int thing = 7; thing >= 0; thing--) {
                bits |= 1 << thing;
                due("rake(" + thing + ", 1)", x.rake(thing, 1), bits);
            }
            due("hours(1)", x.hours(1), 0);
            for (int thing = 0; thing < 8; thing++) {
                bits &= ~(1 << thing);
                due("rake(" + thing + ", 0)", x.rake(thing, 0), bits);
            }
        });
        test("12 rake: raked OUT it is not LIT any more, nor laid on again", () -> {
            fresh(EIGHT);
            x.light(0);
            x.light(7);
            due("rake(7, 1)", x.rake(7, 1), 128);
            due("LIT", x.count(4), 1);
            due("rake(7, 0)", x.rake(7, 0), 0);
            due("LIT", x.count(4), 1);
            x.undo();
            x.undo();
            due("LIT, all undone", x.count(4), 129);
        });
        test("12 rake: ASH, a door, one of iron, too", () -> {
            fresh("b0;d9,0;i9,1;l1,0;");
            x.light(2);
            x.hours(1);
            due("ASH", x.rake(2, 1), 4);
            due("it is ASH still", x.count(6), 4);
            due("a door", x.rake(0, 1), 5);
            due("of iron", x.rake(1, 1), 7);
        });
    }

    private void swapAndWind() {
        test("13 swap: there is no such THING, the one or the other", () -> {
            noSuchThing("swap with 0", t -> y -> y.swap(t, 0));
            noSuchThing("swap 0 with", t -> y -> y.swap(0, t));
            noSuchThing("swap with itself", t -> y -> y.swap(t, t));
        });
        test("13 swap: two that are alike are BAD", () -> {
            refusedInFull(BAD, "swap(0, 0)", y -> y.swap(0, 0));
            refusedInFull(BAD, "swap(5, 5)", y -> y.swap(5, 5));
            refused(() -> reading("b0;s9,0;"), BAD, "swap(0, 0) of 1", y -> y.swap(0, 0));
        });
        test("13 swap: the first and the last, and back", () -> {
            fresh(EIGHT);
            due("swap(0, 7)", x.swap(0, 7), 7);
            due("place(0)", x.place(0), 7);
            due("place(7)", x.place(7), 0);
            due("place(1)", x.place(1), 1);
            due("swap(0, 7) again", x.swap(0, 7), 0);
            due("swap(7, 6)", x.swap(7, 6), 6);
            due("ACTS", x.count(8), 3);
        });
        test("13 swap: LIT, OUT and ASH go with the THING", () -> {
            fresh("b0;l1,0;d9,0;s9,0;s9,5;");
            x.light(0);
            x.hours(1);
            x.light(2);
            x.rake(3, 1);
            due("ASH and LIT", x.swap(0, 2), 2);
            due("OUT and a door", x.swap(3, 1), 1);
            due("LIT", x.count(4), 4);
            due("OUT", x.count(5), 8);
            due("ASH", x.count(6), 1);
            due("WET", x.thing(3, 1), 5);
            due("HEAT of the door by none", x.thing(1, 5), 0);
        });
        test("14 wind: STATE, no HEAP", () -> refusedInBare(STATE, "wind()", y -> y.wind()));
        test("14 wind: the other one, and the other one again", () -> {
            fresh("b1;s9,0;");
            due("down", x.wind(), 0);
            due("up", x.wind(), 1);
            due("ACTS", x.count(8), 2);
            due("undo()", x.undo(), 1);
            due("WIND", x.count(3), 0);
            due("undo()", x.undo(), 0);
            due("WIND", x.count(3), 1);
        });
    }

    private void undo() {
        test("15 undo: STATE, when there is none", () -> {
            refusedInBare(STATE, "undo()", y -> y.undo());
            refused(() -> reading("b0;s9,0;"), STATE, "undo() of a HEAP just read", y -> y.undo());
            refused(behind("b0;s9,0;", y -> y.light(0), y -> y.undo()), STATE, "undo() behind all",
                y -> y.undo());
            refused(behind("b0;s9,0;", y -> y.light(0), y -> y.image(0), y -> y.restore(0)), STATE,
                "undo() behind restore", y -> y.undo());
            refused(behind("b0;s9,0;", y -> y.light(0), y -> y.feed('b'), y -> y.feed('0'), y -> y.feed(';'),
                y -> y.feed('d'), y -> y.feed('1'), y -> y.feed(','), y -> y.feed('0'), y -> y.feed(';'),
                y -> y.heap()), STATE, "undo() behind another HEAP", y -> y.undo());
        });
        test("15 undo: each ACT as there was nothing of it, the latest first", () -> {
            undone("light(5)", y -> y.light(5));
            undone("hours(1)", y -> y.hours(1));
            undone("water(0, 9)", y -> y.water(0, 9));
            undone("water(2, 20)", y -> y.water(2, 20));
            undone("rake(0, 1)", y -> y.rake(0, 1));
            undone("rake(3, 0)", y -> y.rake(3, 0));
            undone("swap(0, 4)", y -> y.swap(0, 4));
            undone("wind()", y -> y.wind());
        });
        test("15 undo: n HOURS are n ACTS", () -> {
            for (Look look : Look.values()) {
                BonfireHeaps asked = full();
                asked.hours(4);
                for (int left = 9; left >= 6; left--) {
                    due("undo()", asked.undo(), left);
                }
                same("hours(4) undone", look.of(asked), look.of(full()));
            }
        });
        test("15 undo: what is undone is not done again by undo()", () -> {
            fresh("b0;s9,0;");
            x.water(0, 1);
            x.water(0, 2);
            x.undo();
            due("another ACT", x.water(0, 5), 6);
            due("undo()", x.undo(), 1);
            due("WET", x.thing(0, 1), 1);
            due("undo()", x.undo(), 0);
            due("WET", x.thing(0, 1), 0);
            due("undo()", x.undo(), STATE);
        });
    }

    private void undone(String call, Call made) {
        for (Look look : Look.values()) {
            BonfireHeaps asked = full();
            int answer = made.on(asked);
            if (answer < 0) {
                due(call, answer, 0);
            }
            due("ACTS behind " + call, asked.count(8), 7);
            due("undo() of " + call, asked.undo(), 6);
            same(call + ", undone,", look.of(asked), look.of(full()));
        }
    }

    private void kept() {
        test("15 undo: 24 ACTS are all kept", () -> {
            fresh("b0;d9,0;i9,0;");
            x.wind();
            for (int i = 1; i <= 23; i++) {
                x.water(i % 2, 1);
                due("ACTS", x.count(8), i + 1);
            }
            for (int left = 23; left >= 0; left--) {
                due("undo()", x.undo(), left);
            }
            due("WIND", x.count(3), 0);
            due("undo()", x.undo(), STATE);
        });
        test("15 undo: of 25 the oldest is forgotten", () -> {
            fresh("b0;d9,0;i9,0;");
            x.wind();
            for (int i = 1; i <= 24; i++) {
                x.water(i % 2, 1);
            }
            due("ACTS", x.count(8), 24);
            for (int left = 23; left >= 0; left--) {
                due("undo()", x.undo(), left);
            }
            due("WIND stays", x.count(3), 1);
            due("WET", x.thing(0, 1) + x.thing(1, 1), 0);
            due("undo()", x.undo(), STATE);
        });
        test("15 undo: 24 HOURS in one call are all that is kept", () -> {
            fresh("b0;g30,0;");
            x.light(0);
            x.hours(24);
            due("ACTS", x.count(8), 24);
            for (int left = 23; left >= 0; left--) {
                due("undo()", x.undo(), left);
                due("HOUR", x.count(2), left);
                due("STUFF", x.thing(0, 0), 30 - left);
            }
            due("LIT still", x.count(4), 1);
            due("undo()", x.undo(), STATE);
        });
        test("15 undo: far round, some undone and others done between", () -> {
            fresh("b0;d30,0;d30,0;");
            for (int i = 0; i < 20; i++) {
                x.water(0, 1);
            }
            for (int i = 0; i < 10; i++) {
                x.undo();
            }
            due("ACTS", x.count(8), 10);
            for (int i = 0; i < 20; i++) {
                x.water(1, 1);
            }
            due("ACTS", x.count(8), 24);
            for (int wet = 19; wet >= 0; wet--) {
                due("undo()", x.undo(), wet + 4);
                due("WET of the other", x.thing(1, 1), wet);
            }
            for (int left = 3; left >= 0; left--) {
                due("undo()", x.undo(), left);
                due("WET of the one", x.thing(0, 1), left + 6);
            }
            due("undo()", x.undo(), STATE);
        });
    }
}
