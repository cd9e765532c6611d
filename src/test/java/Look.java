import java.util.ArrayList;
import java.util.List;

/**
 * A look at all that an object answers, status() aside, so that two objects can be compared. What
 * is kept deeper shows only by calls that change it, so there are three looks, each at an object of
 * its own, and each of them, with some 150 calls ahead of it, stays below 512 calls.
 */
enum Look {
    AT_WHAT_STANDS, AT_WHAT_IS_UNDONE, AT_WHAT_IS_KEPT;

    List<String> of(BonfireHeaps x) {
        List<String> seen = new ArrayList<>();
        switch (this) {
            case AT_WHAT_STANDS:
                atAll(x, seen);
                atRows(x, seen);
                break;
            case AT_WHAT_IS_UNDONE:
                atActs(x, seen);
                break;
            default:
                see(seen, "heap() of the tape", x.heap());
                atHeap(x, seen);
                for (int k = 0; k < 2; k++) {
                    see(seen, "restore(" + k + ")", x.restore(k));
                    atHeap(x, seen);
                }
                break;
        }
        return seen;
    }

    private static void see(List<String> seen, String call, int answer) {
        seen.add(call + " " + answer);
    }

    private static void atAll(BonfireHeaps x, List<String> seen) {
        see(seen, "fault()", x.fault());
        for (int i = 0; i <= 16; i++) {
            see(seen, "trace(" + i + ")", x.trace(i));
        }
        atHeap(x, seen);
        for (int thing = 0; thing < x.count(1); thing++) {
            see(seen, "HEAT of " + thing, x.thing(thing, 5));
            see(seen, "THING in " + thing, x.place(thing));
        }
        see(seen, "later(3, 0)", x.later(3, 0));
        see(seen, "later(3, 1)", x.later(3, 1));
        see(seen, "dead(0)", x.dead(0));
        see(seen, "dead(1)", x.dead(1));
    }

    private static void atHeap(BonfireHeaps x, List<String> seen) {
        for (int what = 0; what <= 9; what++) {
            see(seen, "count(" + what + ")", x.count(what));
        }
        for (int thing = 0; thing < x.count(1); thing++) {
            see(seen, "KIND of " + thing, x.kind(thing));
            see(seen, "STUFF of " + thing, x.thing(thing, 0));
            see(seen, "WET of " + thing, x.thing(thing, 1));
            see(seen, "PLACE of " + thing, x.thing(thing, 2));
        }
    }

    private static void atActs(BonfireHeaps x, List<String> seen) {
        for (int act = 0; act <= 24; act++) {
            int left = x.undo();
            see(seen, "undo()", left);
            if (left < 0) {
                return;
            }
            for (int what = 2; what <= 7; what++) {
                see(seen, "count(" + what + ") behind undo()", x.count(what));
            }
            for (int thing = 0; thing < x.count(1); thing++) {
                see(seen, "WET, PLACE of " + thing, 10 * x.thing(thing, 1) + x.thing(thing, 2));
                see(seen, "STUFF of " + thing, x.thing(thing, 0));
            }
        }
    }

    /** ITEMS show by what they tell of a lit letter: 0 fits 1 to 4 of STUFF, and v fits v + 4. */
    private static void atRows(BonfireHeaps x, List<String> seen) {
        x.heap();
        for (char letter : "b0;l9,0;".toCharArray()) {
            x.feed(letter);
        }
        x.heap();
        x.light(0);
        for (int row = 0; row < 8; row++) {
            for (int i = 0; i <= 40; i++) {
                int fitting = x.fits(0, row, i, 1, 2);
                see(seen, "ITEM " + i + " of " + row, fitting);
                if (fitting < 0) {
                    break;
                }
            }
            see(seen, "set(" + row + ", 0, 70000)", x.set(row, 0, 70000));
            for (int other = 0; other < row; other++) {
                see(seen, "copy of none from " + other + " to " + row, x.copy(other, 0, row, 0, 0));
            }
        }
    }
}
