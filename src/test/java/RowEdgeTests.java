/** The boundaries of ROWS: promises 2 to 5, and 35. */
public final class RowEdgeTests extends Edges {
    public static void main(String[] args) {
        RowEdgeTests tests = new RowEdgeTests();
        tests.row();
        tests.set();
        tests.copy();
        tests.drop();
        tests.status();
        tests.end();
    }

    /** The ITEM as a lit letter shows it (0 to 26), else -1. */
    private static int item(BonfireHeaps x, int row, int i) {
        int fitting = x.fits(0, row, i, 1, 2);
        return fitting == 30 ? 0 : fitting > 0 ? Integer.numberOfTrailingZeros(fitting) - 4 : -1;
    }

    private void items(String what, int row, int... wanted) {
        for (int i = 0; i < wanted.length; i++) {
            due(what + ", ITEM " + i + " of " + row, item(x, row, i), wanted[i]);
        }
        due(what + ", the end of " + row, x.fits(0, row, wanted.length, 1, 2), PLACE);
    }

    private void withLetter() {
        fresh("b0;l9,0;");
        x.light(0);
    }

    private void row() {
        test("2 row: ROWS are 0 to 7", () -> {
            x = new BonfireHeaps();
            for (int row = 0; row <= 7; row++) {
                due("row(" + row + ", 0, 1)", x.row(row, 0, 1), 1);
                due("count(0)", x.count(0), row + 1);
            }
            for (int row : new int[] {-1, 8, LEAST, MOST}) {
                refusedInFull(BAD, "row(" + row + ", 0, 1)", y -> y.row(row, 0, 1));
            }
        });
        test("2 row: LANES are 0 to 2", () -> {
            x = new BonfireHeaps();
            due("row(0, 0, 1)", x.row(0, 0, 1), 1);
            due("bytes", x.set(0, 0, 70000), 112);
            due("row(0, 1, 1)", x.row(0, 1, 1), 1);
            due("shorts", x.set(0, 0, 70000), 4464);
            due("row(0, 2, 1)", x.row(0, 2, 1), 1);
            due("ints", x.set(0, 0, 70000), 70000);
            for (int lane : new int[] {-1, 3, LEAST, MOST}) {
                refusedInFull(BAD, "row(0, " + lane + ", 1)", y -> y.row(0, lane, 1));
                refusedInFull(BAD, "row(5, " + lane + ", 1)", y -> y.row(5, lane, 1));
            }
        });
        test("2 row: 0 to 40 ITEMS, and 41 are too many", () -> {
            for (int lane = 0; lane <= 2; lane++) {
                withLetter();
                due("row(3, " + lane + ", 0)", x.row(3, lane, 0), 0);
                due("one of none", x.set(3, 0, 1), PLACE);
                due("it is there", x.count(0), 1);
                due("row(3, " + lane + ", 40)", x.row(3, lane, 40), 40);
                due("the last of 40", x.set(3, 39, 1), 1);
                due("one more", x.set(3, 40, 1), PLACE);
                due("one ROW", x.count(0), 1);
            }
            for (int n : new int[] {41, 42, MOST}) {
                refusedInFull(BAD, "row(0, 0, " + n + ")", y -> y.row(0, 0, n));
                refusedInFull(BAD, "row(5, 0, " + n + ")", y -> y.row(5, 0, n));
            }
        });
        test("2 row: fewer than none is SIZE, and the ROW stays as it was", () -> {
            for (int n : new int[] {-1, -2, LEAST}) {
                refusedInFull(SIZE, "row(0, 2, " + n + ")", y -> y.row(0, 2, n));
                refusedInFull(SIZE, "row(5, 2, " + n + ")", y -> y.row(5, 2, n));
                refusedInBare(SIZE, "row(7, 0, " + n + ")", y -> y.row(7, 0, n));
            }
        });
        test("2 row: BAD is ahead of SIZE", () -> {
            refusedInFull(BAD, "row(8, 0, -1)", y -> y.row(8, 0, -1));
            refusedInFull(BAD, "row(-1, 0, -1)", y -> y.row(-1, 0, -1));
            refusedInFull(BAD, "row(0, 3, -1)", y -> y.row(0, 3, -1));
            refusedInFull(BAD, "row(0, -1, -1)", y -> y.row(0, -1, -1));
        });
        test("2 row: ITEMS are 0 at first", () -> {
            for (int lane = 0; lane <= 2; lane++) {
                withLetter();
                x.row(lane, lane, 40);
                items("LANE " + lane, lane, new int[40]);
            }
        });
        test("2 row: in place of what is there, with other ITEMS and another LANE", () -> {
            withLetter();
            x.row(6, 0, 40);
            for (int i = 0; i < 40; i++) {
                x.set(6, i, 7);
            }
            due("a shorter one", x.row(6, 1, 2), 2);
            items("a shorter one", 6, 0, 0);
            x.set(6, 1, 3);
            due("its LANE", x.set(6, 0, 40000), -25536);
            due("a longer one", x.row(6, 2, 40), 40);
            items("a longer one", 6, new int[40]);
            due("its LANE", x.set(6, 0, 40000), 40000);
            due("one ROW", x.count(0), 1);
        });
        test("2 row: behind a drop ITEMS are 0 at first", () -> {
            withLetter();
            tell(x, 4, 2, 9, 9, 9);
            x.drop(4);
            due("row(4, 0, 3)", x.row(4, 0, 3), 3);
            items("anew", 4, 0, 0, 0);
        });
    }

    private void set() {
        test("3 set: ROWS are 0 to 7", () -> {
            x = new BonfireHeaps();
            x.row(0, 2, 1);
            x.row(7, 2, 1);
            due("set(0, 0, 5)", x.set(0, 0, 5), 5);
            due("set(7, 0, 6)", x.set(7, 0, 6), 6);
            for (int row : new int[] {-1, 8, LEAST, MOST}) {
                refusedInFull(BAD, "set(" + row + ", 0, 1)", y -> y.set(row, 0, 1));
                refusedInFull(BAD, "set(" + row + ", -1, 1)", y -> y.set(row, -1, 1));
            }
        });
        test("3 set: at first every ROW is missing", () -> {
            for (int row = 0; row <= 7; row++) {
                x = new BonfireHeaps();
                due("set(" + row + ", 0, 1)", x.set(row, 0, 1), NULL);
                due("status()", x.status(), 1);
            }
            refusedInFull(NULL, "set(5, 0, 1)", y -> y.set(5, 0, 1));
            refusedInBare(NULL, "set(7, 0, 1)", y -> y.set(7, 0, 1));
        });
        test("3 set: NULL is ahead of PLACE", () -> {
            refusedInFull(NULL, "set(5, -1, 1)", y -> y.set(5, -1, 1));
            refusedInFull(NULL, "set(5, 40, 1)", y -> y.set(5, 40, 1));
        });
        test("3 set: the first and the last ITEM alone are set", () -> {
            withLetter();
            tell(x, 3, 0, 1, 2, 3, 4);
            due("set(3, 0, 11)", x.set(3, 0, 11), 11);
            items("the first", 3, 11, 2, 3, 4);
            due("set(3, 3, 14)", x.set(3, 3, 14), 14);
            items("the last", 3, 11, 2, 3, 14);
        });
        test("3 set: no such PLACE, below and beyond, of none and of 40", () -> {
            for (int i : new int[] {-1, 3, 4, 40, LEAST, MOST}) {
                refusedInFull(PLACE, "set(0, " + i + ", 1)", y -> y.set(0, i, 1));
            }
            refusedInFull(PLACE, "set(2, 0, 1)", y -> y.set(2, 0, 1));
            refusedInFull(PLACE, "set(2, -1, 1)", y -> y.set(2, -1, 1));
            refusedInFull(PLACE, "set(7, 1, 1)", y -> y.set(7, 1, 1));
            x = new BonfireHeaps();
            x.row(0, 2, 40);
            due("set(0, 39, 1)", x.set(0, 39, 1), 1);
            due("set(0, 40, 1)", x.set(0, 40, 1), PLACE);
        });
        test("3 set: the lowest 8 bits of bytes", () ->
            lowestBits(0, 127, 127, 128, -128, -128, -128, -129, 127, 255, -1, 256, 0, -256, 0, -257, -1,
                LEAST, 0, MOST, -1));
        test("3 set: the lowest 16 bits of shorts", () ->
            lowestBits(1, 128, 128, -129, -129, 32767, 32767, 32768, -32768, -32768, -32768, -32769, 32767,
                65535, -1, 65536, 0, LEAST, 0, MOST, -1));
        test("3 set: all bits of ints", () ->
            lowestBits(2, 32768, 32768, 65536, 65536, LEAST, LEAST, MOST, MOST, -1, -1));
        test("3 set: the ITEM is what was answered", () -> {
            withLetter();
            x.row(0, 0, 1);
            due("set(0, 0, 256 + 9)", x.set(0, 0, 265), 9);
            items("cut to bytes", 0, 9);
            x.row(1, 1, 1);
            due("set(1, 0, 65536 + 9)", x.set(1, 0, 65545), 9);
            items("cut to shorts", 1, 9);
        });
    }

    private void lowestBits(int lane, int... pairs) {
        x = new BonfireHeaps();
        x.row(0, lane, 1);
        for (int i = 0; i < pairs.length; i += 2) {
            due("set(0, 0, " + pairs[i] + ")", x.set(0, 0, pairs[i]), pairs[i + 1]);
        }
    }

    private void copy() {
        test("4 copy: ROWS are 0 to 7, and BAD is ahead of NULL and PLACE", () -> {
            for (int row : new int[] {-1, 8, LEAST, MOST}) {
                refusedInFull(BAD, "copy(" + row + ", 0, 0, 0, 1)", y -> y.copy(row, 0, 0, 0, 1));
                refusedInFull(BAD, "copy(0, 0, " + row + ", 0, 1)", y -> y.copy(0, 0, row, 0, 1));
                refusedInFull(BAD, "copy(5, 0, " + row + ", 0, 1)", y -> y.copy(5, 0, row, 0, 1));
                refusedInFull(BAD, "copy(" + row + ", 0, 5, -1, -1)", y -> y.copy(row, 0, 5, -1, -1));
            }
            x = new BonfireHeaps();
            x.row(0, 0, 1);
            x.row(7, 0, 1);
            due("copy(0, 0, 7, 0, 1)", x.copy(0, 0, 7, 0, 1), 1);
            due("copy(7, 0, 0, 0, 1)", x.copy(7, 0, 0, 0, 1), 1);
        });
        test("4 copy: either ROW is missing, ahead of STORE and PLACE", () -> {
            refusedInFull(NULL, "copy(5, 0, 0, 0, 1)", y -> y.copy(5, 0, 0, 0, 1));
            refusedInFull(NULL, "copy(0, 0, 5, 0, 1)", y -> y.copy(0, 0, 5, 0, 1));
            refusedInFull(NULL, "copy(5, 0, 6, 0, 0)", y -> y.copy(5, 0, 6, 0, 0));
            refusedInFull(NULL, "copy(5, 0, 5, 0, 0)", y -> y.copy(5, 0, 5, 0, 0));
            refusedInFull(NULL, "copy(1, -1, 5, 0, 1)", y -> y.copy(1, -1, 5, 0, 1));
            refusedInFull(NULL, "copy(5, 0, 1, 0, -1)", y -> y.copy(5, 0, 1, 0, -1));
        });
        test("4 copy: two LANES are STORE, ahead of PLACE and for none, too", () -> {
            refusedInFull(STORE, "copy(0, 0, 1, 0, 1)", y -> y.copy(0, 0, 1, 0, 1));
            refusedInFull(STORE, "copy(1, 0, 0, 0, 1)", y -> y.copy(1, 0, 0, 0, 1));
            refusedInFull(STORE, "copy(0, 0, 7, 0, 1)", y -> y.copy(0, 0, 7, 0, 1));
            refusedInFull(STORE, "copy(1, 0, 7, 0, 1)", y -> y.copy(1, 0, 7, 0, 1));
            refusedInFull(STORE, "copy(0, 0, 1, 0, 0)", y -> y.copy(0, 0, 1, 0, 0));
            refusedInFull(STORE, "copy(0, -1, 1, 0, 1)", y -> y.copy(0, -1, 1, 0, 1));
            refusedInFull(STORE, "copy(0, 0, 1, 3, 1)", y -> y.copy(0, 0, 1, 3, 1));
            refusedInFull(STORE, "copy(0, 0, 1, 0, -1)", y -> y.copy(0, 0, 1, 0, -1));
        });
        test("4 copy: i, j or n below 0 is PLACE", () -> {
            for (int less : new int[] {-1, LEAST}) {
                refusedInFull(PLACE, "copy(0, " + less + ", 0, 0, 1)", y -> y.copy(0, less, 0, 0, 1));
                refusedInFull(PLACE, "copy(0, 0, 0, " + less + ", 1)", y -> y.copy(0, 0, 0, less, 1));
                refusedInFull(PLACE, "copy(0, 0, 0, 0, " + less + ")", y -> y.copy(0, 0, 0, 0, less));
                refusedInFull(PLACE, "copy(0, " + less + ", 0, 0, 0)", y -> y.copy(0, less, 0, 0, 0));
                refusedInFull(PLACE, "copy(0, 0, 0, " + less + ", 0)", y -> y.copy(0, 0, 0, less, 0));
            }
        });
        test("4 copy: beyond the end of the one or the other is PLACE", () -> {
            refusedInFull(PLACE, "copy(0, 0, 0, 0, 4)", y -> y.copy(0, 0, 0, 0, 4));
            refusedInFull(PLACE, "copy(0, 1, 0, 0, 3)", y -> y.copy(0, 1, 0, 0, 3));
            refusedInFull(PLACE, "copy(0, 0, 0, 1, 3)", y -> y.copy(0, 0, 0, 1, 3));
            refusedInFull(PLACE, "copy(0, 3, 0, 0, 1)", y -> y.copy(0, 3, 0, 0, 1));
            refusedInFull(PLACE, "copy(0, 4, 0, 0, 0)", y -> y.copy(0, 4, 0, 0, 0));
            refusedInFull(PLACE, "copy(0, 0, 0, 4, 0)", y -> y.copy(0, 0, 0, 4, 0));
            refusedInFull(PLACE, "copy(2, 0, 7, 0, 1)", y -> y.copy(2, 0, 7, 0, 1));
            refusedInFull(PLACE, "copy(7, 0, 2, 0, 1)", y -> y.copy(7, 0, 2, 0, 1));
        });
        test("4 copy: what would wrap around is beyond the end", () -> {
            refusedInFull(PLACE, "copy(0, 1, 0, 0, most)", y -> y.copy(0, 1, 0, 0, MOST));
            refusedInFull(PLACE, "copy(0, 0, 0, 1, most)", y -> y.copy(0, 0, 0, 1, MOST));
            refusedInFull(PLACE, "copy(0, most, 0, 0, 1)", y -> y.copy(0, MOST, 0, 0, 1));
            refusedInFull(PLACE, "copy(0, 0, 0, most, 1)", y -> y.copy(0, 0, 0, MOST, 1));
            refusedInFull(PLACE, "copy(0, most, 0, most, most)", y -> y.copy(0, MOST, 0, MOST, MOST));
        });
        copies();
    }

    private void copies() {
        test("4 copy: none, at both ends, and of empty ROWS", () -> {
            withLetter();
            tell(x, 0, 2, 1, 2);
            tell(x, 1, 2, 3, 4, 5);
            x.row(2, 2, 0);
            due("copy(0, 0, 1, 0, 0)", x.copy(0, 0, 1, 0, 0), 0);
            due("copy(0, 2, 1, 3, 0)", x.copy(0, 2, 1, 3, 0), 0);
            due("copy(2, 0, 2, 0, 0)", x.copy(2, 0, 2, 0, 0), 0);
            due("copy(2, 0, 1, 3, 0)", x.copy(2, 0, 1, 3, 0), 0);
            due("status()", x.status(), 0);
            items("as it was", 1, 3, 4, 5);
        });
        test("4 copy: up to both ends", () -> {
            withLetter();
            tell(x, 0, 1, 1, 2, 3);
            tell(x, 1, 1, 11, 12, 13, 14);
            due("copy(0, 1, 1, 2, 2)", x.copy(0, 1, 1, 2, 2), 2);
            items("come to b", 1, 11, 12, 2, 3);
            items("stay in a", 0, 1, 2, 3);
            due("copy(0, 0, 1, 0, 3)", x.copy(0, 0, 1, 0, 3), 3);
            items("all of a", 1, 1, 2, 3, 3);
        });
        test("4 copy: all 40", () -> {
            withLetter();
            x.row(0, 0, 40);
            x.row(1, 0, 40);
            int[] wanted = new int[40];
            for (int i = 0; i < 40; i++) {
                wanted[i] = i % 26;
                x.set(0, i, i % 26);
            }
            due("copy(0, 0, 1, 0, 40)", x.copy(0, 0, 1, 0, 40), 40);
            items("all", 1, wanted);
            due("copy(0, 0, 1, 0, 41)", x.copy(0, 0, 1, 0, 41), PLACE);
        });
        test("4 copy: within one ROW they come as they were ahead, up and down", () -> {
            withLetter();
            tell(x, 0, 0, 1, 2, 3, 4, 5);
            due("copy(0, 0, 0, 1, 4)", x.copy(0, 0, 0, 1, 4), 4);
            items("up by 1", 0, 1, 1, 2, 3, 4);
            tell(x, 0, 0, 1, 2, 3, 4, 5);
            due("copy(0, 1, 0, 0, 4)", x.copy(0, 1, 0, 0, 4), 4);
            items("down by 1", 0, 2, 3, 4, 5, 5);
            due("copy(0, 0, 0, 0, 5)", x.copy(0, 0, 0, 0, 5), 5);
            items("to where they are", 0, 2, 3, 4, 5, 5);
        });
    }

    private void drop() {
        test("5 drop: ROWS are 0 to 7", () -> {
            for (int row : new int[] {-1, 8, LEAST, MOST}) {
                refusedInFull(BAD, "drop(" + row + ")", y -> y.drop(row));
            }
        });
        test("5 drop: one that is missing is NULL, and one dropped is missing", () -> {
            refusedInFull(NULL, "drop(5)", y -> y.drop(5));
            refusedInBare(NULL, "drop(7)", y -> y.drop(7));
            for (int row = 0; row <= 7; row++) {
                x = new BonfireHeaps();
                due("drop(" + row + ") at first", x.drop(row), NULL);
                x.row(row, 1, 3);
                due("drop(" + row + ")", x.drop(row), 3);
                due("status()", x.status(), 0);
                due("count(0)", x.count(0), 0);
                due("drop(" + row + ") again", x.drop(row), NULL);
                due("set(" + row + ", 0, 0)", x.set(row, 0, 0), NULL);
            }
        });
        test("5 drop: of none and of 40 ITEMS", () -> {
            x = new BonfireHeaps();
            x.row(0, 0, 0);
            x.row(1, 0, 40);
            due("drop(0)", x.drop(0), 0);
            due("drop(1)", x.drop(1), 40);
        });
        test("5 drop: the others stay", () -> {
            withLetter();
            tell(x, 2, 0, 4);
            tell(x, 3, 0, 5);
            tell(x, 4, 0, 6);
            x.drop(3);
            due("count(0)", x.count(0), 2);
            items("below", 2, 4);
            items("above", 4, 6);
        });
    }

    private void status() {
        test("35 status: 0, when there was none", () -> {
            x = new BonfireHeaps();
            due("status()", x.status(), 0);
            fresh("b0;s3,0;");
            x.light(0);
            x.hours(1);
            due("behind calls without a ROW", x.status(), 0);
            x.row(8, 0, 0);
            x.as(1, 0);
            due("behind BAD alone", x.status(), 0);
        });
        test("35 status: each FINDING by its number", () -> {
            fresh("b0;s3,0;");
            x.drop(0);
            due("NULL", x.status(), 1);
            x.row(0, 0, 1);
            x.set(0, 1, 0);
            due("PLACE", x.status(), 2);
            x.as(0, 5);
            due("KIND", x.status(), 3);
            x.row(0, 0, -1);
            due("SIZE", x.status(), 4);
            x.row(1, 1, 1);
            x.copy(0, 0, 1, 0, 1);
            due("STORE", x.status(), 5);
        });
        test("35 status: 0 behind each call with a ROW, or as(), that had none", () -> {
            clears("row(0, 0, 3)", y -> y.row(0, 0, 3));
            clears("set(0, 0, 1)", y -> y.set(0, 0, 1));
            clears("copy(0, 0, 0, 1, 1)", y -> y.copy(0, 0, 0, 1, 1));
            clears("copy(0, 0, 0, 1, 0)", y -> y.copy(0, 0, 0, 1, 0));
            clears("drop(0)", y -> y.drop(0));
            clears("fits(0, 0, 0, 1, 0)", y -> y.fits(0, 0, 0, 1, 0));
            clears("as(0, 0)", y -> y.as(0, 0));
        });
        test("35 status: each call with a ROW, or as(), tells its own", () -> {
            finds(4, "row(0, 0, -1)", y -> y.row(0, 0, -1));
            finds(1, "set(5, 0, 1)", y -> y.set(5, 0, 1));
            finds(2, "set(0, 9, 1)", y -> y.set(0, 9, 1));
            finds(1, "copy(0, 0, 5, 0, 1)", y -> y.copy(0, 0, 5, 0, 1));
            finds(2, "copy(0, 0, 0, 0, 9)", y -> y.copy(0, 0, 0, 0, 9));
            finds(1, "drop(5)", y -> y.drop(5));
            finds(1, "fits(0, 5, 0, 1, 0)", y -> y.fits(0, 5, 0, 1, 0));
            finds(2, "fits(0, 0, 3, 1, 0)", y -> y.fits(0, 0, 3, 1, 0));
            finds(3, "as(0, 5)", y -> y.as(0, 5));
        });
        test("35 status: it stays behind every other call", this::statusStays);
    }

    private void clears(String call, Call made) {
        x = full();
        due("status() ahead of " + call, x.status(), 5);
        made.on(x);
        due("status() behind " + call, x.status(), 0);
    }

    private void finds(int number, String call, Call made) {
        x = full();
        due(call, made.on(x), -1000010 - number);
        due("status() behind " + call, x.status(), number);
    }

    private void statusStays() {
        Call[] others = {
            y -> y.feed('b'), y -> y.feed(256), y -> y.heap(), y -> y.fault(), y -> y.hours(1), y -> y.hours(0),
            y -> y.light(5), y -> y.light(0), y -> y.water(1, 1), y -> y.rake(1, 1), y -> y.swap(0, 1),
            y -> y.wind(), y -> y.undo(), y -> y.thing(0, 0), y -> y.place(0), y -> y.ahead(0, 0, 0),
            y -> y.later(0, 0), y -> y.when(0, 0), y -> y.dead(0), y -> y.kindle(1, 1, 0), y -> y.spare(0, 1),
            y -> y.laying(1, 0), y -> y.rain(0, 0, 0, 0), y -> y.drawn(1, 1, 0), y -> y.image(0),
            y -> y.restore(0), y -> y.kind(0), y -> y.ask(0, 0), y -> y.trace(0), y -> y.count(0),
            y -> y.status()};
        for (int i = 0; i < others.length; i++) {
            x = full();
            others[i].on(x);
            due("status() behind other call " + i, x.status(), 5);
            x = full();
            x.set(0, 0, 1);
            others[i].on(x);
            due("status() 0 behind other call " + i, x.status(), 0);
        }
    }
}
