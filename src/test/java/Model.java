import java.math.BigInteger;
import java.util.ArrayDeque;
import java.util.ArrayList;
import java.util.Deque;
import java.util.List;

/**
 * The document once more, as slow and as literal as can be, with none of the class's shortcuts: a
 * heap is a list of things copied whole, every rule is looked up by going through all of them.
 */
final class Model {
    static final int NONE = -1000000, BAD = -1000001, STATE = -1000002, FULL = -1000003;

    static final class Thing {
        int kind, stuff, wet, place;
        boolean lit, out;

        Thing copied() {
            Thing t = new Thing();
            t.kind = kind;
            t.stuff = stuff;
            t.wet = wet;
            t.place = place;
            t.lit = lit;
            t.out = out;
            return t;
        }

        boolean burns() {
            return kind == 1 || kind == 2 || kind == 3;
        }

        boolean mayBeLit() {
            return !(lit || out || !burns() || stuff == 0 || wet > 0);
        }

        void watered(int n) {
            wet = Math.min(20, wet + n);
            lit = false;
        }
    }

    static final class Fire {
        final List<Thing> things = new ArrayList<>();
        int wind, hour, smoke;

        Fire copied() {
            Fire f = new Fire();
            for (Thing t : things) {
                f.things.add(t.copied());
            }
            f.wind = wind;
            f.hour = hour;
            f.smoke = smoke;
            return f;
        }

        Thing in(int place) {
            for (Thing t : things) {
                if (t.place == place) {
                    return t;
                }
            }
            return null;
        }

        boolean litIn(int place) {
            Thing t = in(place);
            return t != null && t.lit;
        }

        int heat(Thing t) {
            if (t.out) {
                return 0;
            }
            int heat = 0;
            for (int side = -1; side <= 1; side += 2) {
                if (litIn(t.place + side)) {
                    heat += 2;
                }
                Thing beside = in(t.place + side);
                if (beside != null && beside.kind == 5 && !beside.out
                        && (litIn(beside.place - 1) || litIn(beside.place + 1))) {
                    heat += 1;
                }
            }
            if (litIn(wind == 1 ? t.place - 2 : t.place + 2)) {
                heat += 1;
            }
            return heat;
        }

        void hourPasses() {
            Fire before = copied();
            for (int i = 0; i < things.size(); i++) {
                Thing was = before.things.get(i);
                Thing is = things.get(i);
                int heat = before.heat(was);
                if (!was.out) {
                    is.wet = Math.max(0, was.wet - heat);
                }
                if (!was.lit && !was.out && was.burns() && was.stuff > 0 && was.wet == 0 && heat >= 2) {
                    is.lit = true;
                }
                if (was.lit) {
                    int less = was.kind == 1 ? 2 : was.kind == 2 ? 1 : 4;
                    is.stuff = Math.max(0, was.stuff - less);
                    if (is.stuff == 0) {
                        is.lit = false;
                    }
                    smoke = Math.min(99999, smoke + (was.kind == 1 ? 1 : was.kind == 2 ? 3 : 0));
                }
            }
            hour++;
        }

        Fire on(int hours) {
            Fire f = copied();
            for (int h = 0; h < hours; h++) {
                f.hourPasses();
            }
            return f;
        }

        int lit() {
            int bits = 0;
            for (int i = 0; i < things.size(); i++) {
                bits |= things.get(i).lit ? 1 << i : 0;
            }
            return bits;
        }

        int out() {
            int bits = 0;
            for (int i = 0; i < things.size(); i++) {
                bits |= things.get(i).out ? 1 << i : 0;
            }
            return bits;
        }

        int ash() {
            int bits = 0;
            for (int i = 0; i < things.size(); i++) {
                bits |= things.get(i).stuff == 0 ? 1 << i : 0;
            }
            return bits;
        }

        void swapped(int a, int b) {
            int place = things.get(a).place;
            things.get(a).place = things.get(b).place;
            things.get(b).place = place;
        }
    }

    private final int[][] rows = new int[8][];
    private final int[] lanes = new int[8];
    private String tape = "";
    private int fault = 0;
    private int status = 0;
    private Fire fire = null;
    private Deque<Fire> acts = new ArrayDeque<>();
    private final Fire[] images = new Fire[2];
    private List<Integer> trace = new ArrayList<>();

    private boolean noThing(int thing) {
        return fire == null || thing < 0 || thing >= fire.things.size();
    }

    private int found(int number) {
        status = number;
        return -1000010 - number;
    }

    private int fine(int answer) {
        status = 0;
        return answer;
    }

    int row(int row, int lane, int n) {
        if (row < 0 || row > 7 || lane < 0 || lane > 2 || n > 40) return BAD;
        if (n < 0) return found(4);
        rows[row] = new int[n];
        lanes[row] = lane;
        return fine(n);
    }

    int set(int row, int i, int v) {
        if (row < 0 || row > 7) return BAD;
        if (rows[row] == null) return found(1);
        if (i < 0 || i >= rows[row].length) return found(2);
        int shift = lanes[row] == 0 ? 24 : lanes[row] == 1 ? 16 : 0;
        rows[row][i] = v << shift >> shift;
        return fine(rows[row][i]);
    }

    int copy(int a, int i, int b, int j, int n) {
        if (a < 0 || a > 7 || b < 0 || b > 7) return BAD;
        if (rows[a] == null || rows[b] == null) return found(1);
        if (lanes[a] != lanes[b]) return found(5);
        if (i < 0 || j < 0 || n < 0 || (long) i + n > rows[a].length || (long) j + n > rows[b].length) {
            return found(2);
        }
        int[] were = rows[a].clone();
        for (int k = 0; k < n; k++) {
            rows[b][j + k] = were[i + k];
        }
        return fine(n);
    }

    int drop(int row) {
        if (row < 0 || row > 7) return BAD;
        if (rows[row] == null) return found(1);
        int had = rows[row].length;
        rows[row] = null;
        return fine(had);
    }

    int feed(int letter) {
        if (letter < 0 || letter > 255) return BAD;
        if (tape.length() == 90) return FULL;
        tape += (char) letter;
        return tape.length();
    }

    /** Tokens first: {what (n a number, ? none, $ the end, else the byte), place, value, number or not}. */
    int heap() {
        String text = tape;
        tape = "";
        List<int[]> tokens = new ArrayList<>();
        for (int at = 0; at < text.length(); ) {
            int end = at;
            while (end < text.length() && text.charAt(end) >= '0' && text.charAt(end) <= '9') {
                end++;
            }
            if (end - at > 2) {
                tokens.add(new int[] {'?', at, 0, 0});
                at = end;
            } else if (end > at) {
                tokens.add(new int[] {'n', at, Integer.parseInt(text.substring(at, end)), 1});
                at = end;
            } else {
                tokens.add(new int[] {"abcdefghijklmnopqrstuvwxyz,;".indexOf(text.charAt(at)) < 0
                    ? '?' : text.charAt(at), at, 0, 0});
                at++;
            }
        }
        tokens.add(new int[] {'$', text.length(), 0, 0});
        Fire read = new Fire();
        int k = 0;
        for (int step = 0; ; step++) {
            int[] token = tokens.get(k++);
            boolean number = token[3] == 1;
            int bad;
            int part = step < 3 ? step : (step - 3) % 5 + 3;
            if (part == 3 && token[0] == '$' && !read.things.isEmpty()) {
                break;
            }
            switch (part) {
                case 0: bad = token[0] == 'b' && !number ? 0 : 1; break;
                case 1: bad = !number ? 1 : token[2] > 1 ? 2 : 0; read.wind = token[2]; break;
                case 3:
                    int kind = number ? -1 : " sgldi".indexOf(token[0]);
                    bad = kind < 1 ? 1 : read.things.size() == 8 ? 3 : 0;
                    if (bad == 0) {
                        Thing t = new Thing();
                        t.kind = kind;
                        t.place = read.things.size();
                        read.things.add(t);
                    }
                    break;
                case 4:
                    bad = !number ? 1 : token[2] < 1 || token[2] > 30 ? 2 : 0;
                    read.things.get(read.things.size() - 1).stuff = token[2];
                    break;
                case 5: bad = token[0] == ',' ? 0 : 1; break;
                case 6:
                    bad = !number ? 1 : token[2] > 20 ? 2 : 0;
                    read.things.get(read.things.size() - 1).wet = token[2];
                    break;
                default: bad = token[0] == ';' ? 0 : 1; break;
            }
            if (bad != 0) {
                fault = bad;
                return -1000100 - token[1];
            }
        }
        fire = read;
        acts = new ArrayDeque<>();
        return fire.things.size();
    }

    int fault() {
        return fault;
    }

    private void act() {
        acts.push(fire.copied());
        if (acts.size() > 24) {
            acts.removeLast();
        }
    }

    int hours(int n) {
        if (fire == null) return STATE;
        if (n < 1 || n > 24) return BAD;
        if (fire.hour + n > 9999) return FULL;
        for (int h = 0; h < n; h++) {
            act();
            fire.hourPasses();
        }
        return fire.lit();
    }

    int light(int thing) {
        if (noThing(thing)) return BAD;
        if (!fire.things.get(thing).mayBeLit()) return STATE;
        act();
        fire.things.get(thing).lit = true;
        return fire.lit();
    }

    int water(int thing, int n) {
        if (noThing(thing) || n < 1 || n > 20) return BAD;
        if (fire.things.get(thing).out) return STATE;
        act();
        fire.things.get(thing).watered(n);
        return fire.things.get(thing).wet;
    }

    int rake(int thing, int out) {
        if (noThing(thing) || out < 0 || out > 1) return BAD;
        if (fire.things.get(thing).out == (out == 1)) return STATE;
        act();
        fire.things.get(thing).out = out == 1;
        fire.things.get(thing).lit = false;
        return fire.out();
    }

    int swap(int one, int other) {
        if (noThing(one) || noThing(other) || one == other) return BAD;
        act();
        fire.swapped(one, other);
        return fire.things.get(one).place;
    }

    int wind() {
        if (fire == null) return STATE;
        act();
        fire.wind = 1 - fire.wind;
        return fire.wind;
    }

    int undo() {
        if (acts.isEmpty()) return STATE;
        fire = acts.pop();
        return acts.size();
    }

    int thing(int thing, int what) {
        if (noThing(thing) || what < 0 || what > 6) return BAD;
        Thing t = fire.things.get(thing);
        return new int[] {t.stuff, t.wet, t.place, t.lit ? 1 : 0, t.out ? 1 : 0, fire.heat(t),
            t.stuff == 0 ? 1 : 0}[what];
    }

    int place(int place) {
        if (fire == null || place < 0 || place >= fire.things.size()) return BAD;
        return fire.things.indexOf(fire.in(place));
    }

    int ahead(int thing, int d, int what) {
        if (noThing(thing) || d < 0 || d > 60 || what < 0 || what > 1) return BAD;
        Thing t = fire.on(d).things.get(thing);
        return what == 0 ? t.stuff : t.wet;
    }

    int later(int d, int what) {
        if (fire == null) return STATE;
        if (d < 0 || d > 60 || what < 0 || what > 1) return BAD;
        return what == 0 ? fire.on(d).lit() : fire.on(d).smoke;
    }

    int when(int thing, int what) {
        if (noThing(thing) || what < 0 || what > 1) return BAD;
        for (int h = 0; h <= 60; h++) {
            Thing t = fire.on(h).things.get(thing);
            if (what == 0 ? t.lit : t.stuff == 0) return h;
        }
        return NONE;
    }

    int dead(int what) {
        if (fire == null) return STATE;
        if (what < 0 || what > 1) return BAD;
        Fire f = fire.copied();
        int h = 0;
        while (f.lit() != 0 && h < 200) {
            f.hourPasses();
            h++;
        }
        if (what == 0) {
            return f.lit() == 0 ? h : NONE;
        }
        return (1 << f.things.size()) - 1 & ~f.ash() & ~f.out();
    }

    int kindle(int set, int n, int what) {
        if (fire == null) return STATE;
        if (set < 0 || set >= 1 << fire.things.size() || n < 1 || n > 60 || what < 0 || what > 1) return BAD;
        for (int k = 0; k <= 8; k++) {
            for (int hand = 0; hand < 1 << fire.things.size(); hand++) {
                if (Integer.bitCount(hand) == k && kindled(hand, set, n)) {
                    return what == 0 ? k : hand;
                }
            }
        }
        return NONE;
    }

    private boolean kindled(int hand, int set, int n) {
        Fire f = fire.copied();
        for (int i = 0; i < f.things.size(); i++) {
            if ((hand & 1 << i) != 0) {
                if (!f.things.get(i).mayBeLit()) return false;
                f.things.get(i).lit = true;
            }
        }
        return (f.on(n).ash() & set) == set;
    }

    int spare(int thing, int n) {
        if (noThing(thing) || n < 1 || n > 30) return BAD;
        if (fire.things.get(thing).out) return STATE;
        for (int water = 0; water <= 20; water++) {
            Fire f = fire.copied();
            if (water > 0) {
                f.things.get(thing).watered(water);
            }
            boolean lit = f.things.get(thing).lit;
            for (int h = 0; h < n; h++) {
                f.hourPasses();
                lit |= f.things.get(thing).lit;
            }
            if (!lit) return water;
        }
        return NONE;
    }

    int laying(int n, int what) {
        if (fire == null) return STATE;
        if (n < 1 || n > 30 || what < 0 || what > 1) return BAD;
        int pair = NONE;
        int most = NONE;
        for (int a = 0; a < fire.things.size(); a++) {
            for (int b = a + 1; b < fire.things.size(); b++) {
                Fire f = fire.copied();
                f.swapped(a, b);
                int ash = Integer.bitCount(f.on(n).ash());
                if (most == NONE || ash > most) {
                    most = ash;
                    pair = 10 * a + b;
                }
            }
        }
        return what == 0 ? pair : most;
    }

    int fits(int thing, int row, int i, int n, int what) {
        if (noThing(thing) || row < 0 || row > 7 || n < 1 || n > 12 || what < 0 || what > 3) return BAD;
        if (rows[row] == null) return found(1);
        if (i < 0 || (long) i + n > rows[row].length) return found(2);
        int bits = 0;
        for (int v = 0; v <= 30; v++) {
            boolean can = what == 0 ? v >= 1 && v <= 5 : what == 1 ? v <= 20 : what == 2 ? v >= 1 : v <= 1;
            if (can && fitsWith(v, thing, rows[row], i, n, what)) {
                bits |= 1 << v;
            }
        }
        return fine(bits);
    }

    private boolean fitsWith(int v, int thing, int[] items, int i, int n, int what) {
        Fire f = fire.copied();
        Thing t = f.things.get(thing);
        if (what == 0) {
            t.kind = v;
            if (!t.burns()) {
                t.lit = false;
            }
        } else if (what == 1) {
            t.wet = v;
        } else if (what == 2) {
            t.stuff = v;
        } else {
            f.wind = v;
        }
        boolean so = true;
        for (int h = 0; h < n; h++) {
            f.hourPasses();
            so &= t.stuff == items[i + h];
        }
        return so;
    }

    int rain(int thing, int n, int c, int what) {
        if (noThing(thing) || n < 0 || n > 60 || c < 0 || c > 10 || what < 0 || what > 1) return BAD;
        BigInteger above = BigInteger.ZERO;
        BigInteger below = BigInteger.ONE;
        for (Thing t : fire.things) {
            if (!t.out) {
                below = below.multiply(BigInteger.TEN);
            }
        }
        for (int set = 0; set < 1 << fire.things.size(); set++) {
            if ((set & fire.out()) == 0) {
                Fire f = fire.copied();
                BigInteger weight = BigInteger.ONE;
                for (int i = 0; i < f.things.size(); i++) {
                    if (f.things.get(i).out) {
                        continue;
                    }
                    boolean wetted = (set & 1 << i) != 0;
                    weight = weight.multiply(BigInteger.valueOf(wetted ? c : 10 - c));
                    if (wetted) {
                        f.things.get(i).watered(3);
                    }
                }
                if (f.on(n).things.get(thing).stuff == 0) {
                    above = above.add(weight);
                }
            }
        }
        BigInteger shared = above.gcd(below);
        return (what == 0 ? above : below).divide(shared).intValueExact();
    }

    int drawn(int n, int seed, int what) {
        if (fire == null) return STATE;
        if (n < 0 || n > 60 || seed < 1 || seed > 999999 || what < 0 || what > 1) return BAD;
        Fire f = fire.copied();
        BigInteger x = BigInteger.valueOf(seed);
        for (int h = 0; h < n; h++) {
            x = x.multiply(BigInteger.valueOf(16807)).mod(BigInteger.valueOf(Integer.MAX_VALUE));
            int draw = x.intValueExact();
            Thing t = f.things.get(draw % f.things.size());
            if (t.mayBeLit() && draw % 2 == 0) {
                t.lit = true;
            } else if (draw % 5 == 0) {
                if (!t.out) {
                    t.watered(draw % 4);
                }
            }
            if (draw % 7 == 0) {
                f.wind = 1 - f.wind;
            }
            f.hourPasses();
        }
        return what == 0 ? Integer.bitCount(f.ash()) : f.smoke - fire.smoke;
    }

    int image(int k) {
        if (k < 0 || k > 1) return BAD;
        if (fire == null) return STATE;
        images[k] = fire.copied();
        return 1;
    }

    int restore(int k) {
        if (k < 0 || k > 1) return BAD;
        if (images[k] == null) return STATE;
        fire = images[k].copied();
        acts = new ArrayDeque<>();
        return 1;
    }

    int kind(int thing) {
        return noThing(thing) ? BAD : fire.things.get(thing).kind;
    }

    int as(int thing, int kind) {
        if (noThing(thing) || kind < 0 || kind > 5) return BAD;
        String[] are = {"", "01", "012", "013", "04", "045"};
        boolean is = are[fire.things.get(thing).kind].indexOf('0' + kind) >= 0;
        return is ? fine(thing) : found(3);
    }

    int ask(int thing, int what) {
        if (noThing(thing) || what < 0 || what > 1) return BAD;
        trace = new ArrayList<>();
        Asked asked = Asked.of(fire.things.get(thing), thing, trace);
        return what == 0 ? asked.size() : asked.mark();
    }

    int trace(int i) {
        return i < 0 || i >= Math.min(16, trace.size()) ? NONE : trace.get(i);
    }

    int count(int what) {
        if (what < 0 || what > 9) return BAD;
        int there = 0;
        for (int[] row : rows) {
            there += row == null ? 0 : 1;
        }
        if (what == 0) return there;
        if (what == 9) return tape.length();
        if (what == 8) return acts.size();
        if (fire == null) return 0;
        return new int[] {0, fire.things.size(), fire.hour, fire.wind, fire.lit(), fire.out(), fire.ash(),
            fire.smoke}[what];
    }

    int status() {
        return status;
    }

    /** Asks by Java's own classes, which choose the nearest body by themselves. */
    static class Asked {
        Thing thing;
        int number;
        List<Integer> trace;

        static Asked of(Thing thing, int number, List<Integer> trace) {
            Asked a = thing.kind == 1 ? new Stick() : thing.kind == 2 ? new Green()
                : thing.kind == 3 ? new Letter() : thing.kind == 4 ? new Door() : new Iron();
            a.thing = thing;
            a.number = number;
            a.trace = trace;
            return a;
        }

        int size() {
            trace.add(10);
            return thing.stuff;
        }

        int mark() {
            trace.add(20);
            return number;
        }
    }

    static class Stick extends Asked {
        @Override int size() {
            trace.add(11);
            return super.size() + mark();
        }

        @Override int mark() {
            trace.add(21);
            return super.mark() + thing.wet;
        }
    }

    static class Green extends Stick {
        @Override int size() {
            trace.add(12);
            return 0 - super.size();
        }

        @Override int mark() {
            trace.add(24);
            return super.mark() * 2;
        }
    }

    static class Letter extends Stick {
        @Override int mark() {
            trace.add(22);
            return super.mark() - 1000;
        }
    }

    static class Door extends Asked {
        @Override int size() {
            trace.add(13);
            return super.size() - 100;
        }

        @Override int mark() {
            trace.add(23);
            return super.mark() - size();
        }
    }

    static class Iron extends Door {
        @Override int size() {
            trace.add(14);
            return super.size() * 2;
        }
    }
}
