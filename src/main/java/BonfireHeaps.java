/**
 * Heaps on the green at the year's end: things side by side that are lit, watered, raked out and
 * laid elsewhere, what comes of them hour by hour, and what could be told of it ahead.
 */
public final class BonfireHeaps {
    public static final int NONE = -1000000, BAD = -1000001, STATE = -1000002, FULL = -1000003;

    private static final int FINDING = -1000010, FAULT = -1000100;
    private static final int NULL = 1, PLACE = 2, KIND = 3, SIZE = 4, STORE = 5;

    private static final int ROWS = 8, MOST_ITEMS = 40, MISSING = -1, BYTES = 0, SHORTS = 1, INTS = 2;
    private static final int MOST_BYTES = 90, UNREADABLE = 1, OUT_OF_BOUNDS = 2, NO_ROOM = 3;
    private static final int MOST_THINGS = 8, MOST_STUFF = 30, MOST_WET = 20;
    private static final int MOST_SMOKE = 99999, LAST_HOUR = 9999, MOST_ACTS = 24, IMAGES = 2;
    private static final int DAY = 60, LONG_NIGHT = 200, MOST_TOLD = 12;
    private static final int ONE_CALL = 24, HALF_DAY = 30, LAST_SEED = 999999;

    private static final int THING = 0, STICK = 1, GREEN = 2, LETTER = 3, DOOR = 4, IRON = 5;
    private static final String SORTS = "sgldi";
    private static final int[] PARENTS = {-1, THING, STICK, STICK, THING, DOOR};
    private static final int[] STUFF_AN_HOUR = {0, 2, 1, 4, 0, 0};
    private static final int[] SMOKE_AN_HOUR = {0, 1, 3, 0, 0, 0};

    private final Row[] rows = new Row[ROWS];
    private final Heap[] images = new Heap[IMAGES];
    private final Heap now = new Heap();
    private final Heap draft = new Heap();
    private final Tape tape = new Tape();
    private final Acts acts = new Acts();
    private final Foretold foretold = new Foretold();
    private final Asks asks = new Asks();
    private int finding = 0;

    public BonfireHeaps() {
        for (int i = 0; i < ROWS; i++) {
            rows[i] = new Row();
        }
        for (int i = 0; i < IMAGES; i++) {
            images[i] = new Heap();
        }
    }

    // ---- rows

    public int row(int row, int lane, int n) {
        if (!isRow(row) || lane < BYTES || lane > INTS || n > MOST_ITEMS) {
            return BAD;
        }
        if (n < 0) {
            return found(SIZE);
        }
        rows[row].begin(lane, n);
        return foundNothing(n);
    }

    public int set(int row, int i, int v) {
        if (!isRow(row)) {
            return BAD;
        }
        if (rows[row].isMissing()) {
            return found(NULL);
        }
        if (!rows[row].holds(i, 1)) {
            return found(PLACE);
        }
        return foundNothing(rows[row].put(i, v));
    }

    public int copy(int a, int i, int b, int j, int n) {
        if (!isRow(a) || !isRow(b)) {
            return BAD;
        }
        Row from = rows[a];
        Row to = rows[b];
        if (from.isMissing() || to.isMissing()) {
            return found(NULL);
        }
        if (from.lane != to.lane) {
            return found(STORE);
        }
        if (!from.holds(i, n) || !to.holds(j, n)) {
            return found(PLACE);
        }
        System.arraycopy(from.items, i, to.items, j, n);
        return foundNothing(n);
    }

    public int drop(int row) {
        if (!isRow(row)) {
            return BAD;
        }
        if (rows[row].isMissing()) {
            return found(NULL);
        }
        int had = rows[row].size;
        rows[row].lose();
        return foundNothing(had);
    }

    // ---- heaps, acts

    public int feed(int letter) {
        if (letter < 0 || letter > 255) {
            return BAD;
        }
        return tape.takeByte(letter) ? tape.size : FULL;
    }

    public int heap() {
        boolean isRead = tape.readInto(draft);
        int end = tape.at;
        tape.size = 0;
        if (!isRead) {
            return FAULT - end;
        }
        now.takeFrom(draft);
        acts.forget();
        return now.things;
    }

    public int fault() {
        return tape.latestFault;
    }

    public int hours(int n) {
        if (now.isNone()) {
            return STATE;
        }
        if (n < 1 || n > ONE_CALL) {
            return BAD;
        }
        if (now.hour + n > LAST_HOUR) {
            return FULL;
        }
        for (int h = 0; h < n; h++) {
            acts.keep(now);
            now.passHour();
        }
        return now.lit;
    }

    public int light(int thing) {
        if (!now.hasThing(thing)) {
            return BAD;
        }
        if (!now.mayBeLit(thing)) {
            return STATE;
        }
        acts.keep(now);
        now.lightByHand(thing);
        return now.lit;
    }

    public int water(int thing, int n) {
        if (!now.hasThing(thing) || n < 1 || n > MOST_WET) {
            return BAD;
        }
        if (now.isOut(thing)) {
            return STATE;
        }
        acts.keep(now);
        now.pourOn(thing, n);
        return now.wet[thing];
    }

    public int rake(int thing, int out) {
        if (!now.hasThing(thing) || !isEither(out)) {
            return BAD;
        }
        boolean outThen = out == 1;
        if (now.isOut(thing) == outThen) {
            return STATE;
        }
        acts.keep(now);
        if (outThen) {
            now.rakeOut(thing);
        } else {
            now.layOn(thing);
        }
        return now.out;
    }

    public int swap(int one, int other) {
        if (!now.hasThing(one) || !now.hasThing(other) || one == other) {
            return BAD;
        }
        acts.keep(now);
        now.changePlaces(one, other);
        return now.places[one];
    }

    public int wind() {
        if (now.isNone()) {
            return STATE;
        }
        acts.keep(now);
        now.turnWind();
        return now.wind;
    }

    public int undo() {
        if (acts.kept == 0) {
            return STATE;
        }
        acts.takeBack(now);
        return acts.kept;
    }

    public int thing(int thing, int what) {
        if (!now.hasThing(thing)) {
            return BAD;
        }
        switch (what) {
            case 0:
                return now.stuff[thing];
            case 1:
                return now.wet[thing];
            case 2:
                return now.places[thing];
            case 3:
                return now.isLit(thing) ? 1 : 0;
            case 4:
                return now.isOut(thing) ? 1 : 0;
            case 5:
                return now.heatOf(thing);
            case 6:
                return now.isAsh(thing) ? 1 : 0;
            default:
                return BAD;
        }
    }

    public int place(int place) {
        for (int t = 0; t < now.things; t++) {
            if (now.places[t] == place) {
                return t;
            }
        }
        return BAD;
    }

    // ---- foretold

    public int ahead(int thing, int d, int what) {
        if (!now.hasThing(thing) || !isWithin(d, 0, DAY) || !isEither(what)) {
            return BAD;
        }
        Heap then = foretold.hoursOn(now, d);
        return what == 0 ? then.stuff[thing] : then.wet[thing];
    }

    public int later(int d, int what) {
        if (now.isNone()) {
            return STATE;
        }
        if (!isWithin(d, 0, DAY) || !isEither(what)) {
            return BAD;
        }
        Heap then = foretold.hoursOn(now, d);
        return what == 0 ? then.lit : then.smoke;
    }

    public int when(int thing, int what) {
        if (!now.hasThing(thing) || !isEither(what)) {
            return BAD;
        }
        return what == 0 ? foretold.caughtBehind(now, thing) : foretold.ashBehind(now, thing);
    }

    public int dead(int what) {
        if (now.isNone()) {
            return STATE;
        }
        if (!isEither(what)) {
            return BAD;
        }
        return what == 0 ? foretold.deadBehind(now) : foretold.leftWhenDead(now);
    }

    public int kindle(int set, int n, int what) {
        if (now.isNone()) {
            return STATE;
        }
        if (!isWithin(set, 0, now.allThings()) || !isWithin(n, 1, DAY) || !isEither(what)) {
            return BAD;
        }
        int hand = foretold.fewestToLight(now, set, n);
        return what == 1 || hand == NONE ? hand : Integer.bitCount(hand);
    }

    public int spare(int thing, int n) {
        if (!now.hasThing(thing) || !isWithin(n, 1, HALF_DAY)) {
            return BAD;
        }
        if (now.isOut(thing)) {
            return STATE;
        }
        return foretold.leastWater(now, thing, n);
    }

    public int laying(int n, int what) {
        if (now.isNone()) {
            return STATE;
        }
        if (!isWithin(n, 1, HALF_DAY) || !isEither(what)) {
            return BAD;
        }
        return foretold.bestLaying(now, n, what == 0);
    }

    public int fits(int thing, int row, int i, int n, int what) {
        if (!now.hasThing(thing) || !isRow(row)) {
            return BAD;
        }
        if (!isWithin(n, 1, MOST_TOLD) || !isWithin(what, 0, Foretold.WINDS)) {
            return BAD;
        }
        if (rows[row].isMissing()) {
            return found(NULL);
        }
        if (!rows[row].holds(i, n)) {
            return found(PLACE);
        }
        return foundNothing(foretold.whatFits(now, thing, rows[row], i, n, what));
    }

    public int rain(int thing, int n, int c, int what) {
        if (!now.hasThing(thing) || !isWithin(n, 0, DAY)) {
            return BAD;
        }
        if (!isWithin(c, 0, Foretold.SURE) || !isEither(what)) {
            return BAD;
        }
        return foretold.ashInRain(now, thing, n, c, what == 0);
    }

    public int drawn(int n, int seed, int what) {
        if (now.isNone()) {
            return STATE;
        }
        if (!isWithin(n, 0, DAY) || !isWithin(seed, 1, LAST_SEED) || !isEither(what)) {
            return BAD;
        }
        Heap then = foretold.yearByDraws(now, n, seed);
        return what == 0 ? Integer.bitCount(then.ashes()) : then.smoke;
    }

    public int image(int k) {
        if (!isWithin(k, 0, IMAGES - 1)) {
            return BAD;
        }
        if (now.isNone()) {
            return STATE;
        }
        images[k].takeFrom(now);
        return 1;
    }

    public int restore(int k) {
        if (!isWithin(k, 0, IMAGES - 1)) {
            return BAD;
        }
        if (images[k].isNone()) {
            return STATE;
        }
        now.takeFrom(images[k]);
        acts.forget();
        return 1;
    }

    // ---- asked

    public int kind(int thing) {
        return now.hasThing(thing) ? now.kinds[thing] : BAD;
    }

    public int as(int thing, int kind) {
        if (!now.hasThing(thing) || !isWithin(kind, THING, IRON)) {
            return BAD;
        }
        return isOfKind(now.kinds[thing], kind) ? foundNothing(thing) : found(KIND);
    }

    public int ask(int thing, int what) {
        if (!now.hasThing(thing) || !isEither(what)) {
            return BAD;
        }
        return asks.answer(now, thing, what == 0);
    }

    public int trace(int i) {
        return isWithin(i, 0, asks.traced - 1) ? asks.bodies[i] : NONE;
    }

    public int count(int what) {
        switch (what) {
            case 0:
                return rowsThere();
            case 1:
                return now.things;
            case 2:
                return now.hour;
            case 3:
                return now.wind;
            case 4:
                return now.lit;
            case 5:
                return now.out;
            case 6:
                return now.ashes();
            case 7:
                return now.smoke;
            case 8:
                return acts.kept;
            case 9:
                return tape.size;
            default:
                return BAD;
        }
    }

    public int status() {
        return finding;
    }

    private int found(int number) {
        finding = number;
        return FINDING - number;
    }

    private int foundNothing(int answer) {
        finding = 0;
        return answer;
    }

    private int rowsThere() {
        int there = 0;
        for (int i = 0; i < ROWS; i++) {
            if (!rows[i].isMissing()) {
                there++;
            }
        }
        return there;
    }

    private static boolean isRow(int row) {
        return isWithin(row, 0, ROWS - 1);
    }

    private static boolean isEither(int what) {
        return what == 0 || what == 1;
    }

    private static boolean isWithin(int number, int least, int most) {
        return number >= least && number <= most;
    }

    private static boolean isOfKind(int kind, int wanted) {
        int is = kind;
        for (int step = 0; step < PARENTS.length && isWithin(is, THING, IRON); step++) {
            if (is == wanted) {
                return true;
            }
            is = PARENTS[is];
        }
        return false;
    }

    /** Numbers of one lane; all lanes are held as ints, cut to the lane's width as they are put. */
    private static final class Row {
        int lane = MISSING;
        int size = 0;
        final int[] items = new int[MOST_ITEMS];

        boolean isMissing() {
            return lane == MISSING;
        }

        void begin(int newLane, int n) {
            lane = newLane;
            size = n;
            for (int i = 0; i < MOST_ITEMS; i++) {
                items[i] = 0;
            }
        }

        void lose() {
            lane = MISSING;
            size = 0;
        }

        /** Compared by what is left behind i, since i + n could wrap around. */
        boolean holds(int i, int n) {
            return i >= 0 && n >= 0 && i <= size && n <= size - i;
        }

        int put(int i, int v) {
            int cut = v;
            if (lane == BYTES) {
                cut = (byte) v;
            } else if (lane == SHORTS) {
                cut = (short) v;
            }
            items[i] = cut;
            return cut;
        }
    }

    /** The tape and its reading: when that fails, "at" is left on the first byte of what is faulty. */
    private static final class Tape {
        final int[] bytes = new int[MOST_BYTES];
        int size = 0;
        int at = 0;
        int latestFault = 0;
        private int number = 0;

        boolean takeByte(int letter) {
            if (size >= MOST_BYTES) {
                return false;
            }
            bytes[size] = letter;
            size++;
            return true;
        }

        boolean readInto(Heap heap) {
            at = 0;
            if (!readSign('b') || !readNumber(0, 1) || !readSign(';')) {
                return false;
            }
            heap.begin(number);
            // one thing more than there is room for is begun, so that its letter is found faulty
            for (int t = 0; t <= MOST_THINGS; t++) {
                if (t > 0 && at == size) {
                    return true;
                }
                if (!readThing(heap)) {
                    return false;
                }
            }
            return true;
        }

        private boolean readThing(Heap heap) {
            int kind = at < size ? SORTS.indexOf((char) bytes[at]) + 1 : 0;
            if (kind == 0) {
                return failWith(UNREADABLE);
            }
            if (heap.things >= MOST_THINGS) {
                return failWith(NO_ROOM);
            }
            at++;
            if (!readNumber(1, MOST_STUFF) || !readSign(',')) {
                return false;
            }
            int stuff = number;
            if (!readNumber(0, MOST_WET) || !readSign(';')) {
                return false;
            }
            heap.layThing(kind, stuff, number);
            return true;
        }

        private boolean readSign(int sign) {
            if (at >= size || bytes[at] != sign) {
                return failWith(UNREADABLE);
            }
            at++;
            return true;
        }

        private boolean readNumber(int least, int most) {
            int end = at;
            int value = 0;
            while (end < size && end < at + 3 && isWithin(bytes[end], '0', '9')) {
                value = 10 * value + bytes[end] - '0';
                end++;
            }
            if (end == at || end == at + 3) {
                return failWith(UNREADABLE);
            }
            if (!isWithin(value, least, most)) {
                return failWith(OUT_OF_BOUNDS);
            }
            number = value;
            at = end;
            return true;
        }

        private boolean failWith(int fault) {
            latestFault = fault;
            return false;
        }
    }

    /** Things and all that acts change of them. Without things it stands for no heap at all. */
    private static final class Heap {
        int things = 0;
        final int[] kinds = new int[MOST_THINGS];
        final int[] stuff = new int[MOST_THINGS];
        final int[] wet = new int[MOST_THINGS];
        final int[] places = new int[MOST_THINGS];
        int lit = 0;
        int out = 0;
        int wind = 0;
        int smoke = 0;
        int hour = 0;

        boolean isNone() {
            return things == 0;
        }

        void begin(int newWind) {
            things = 0;
            lit = 0;
            out = 0;
            wind = newWind;
            smoke = 0;
            hour = 0;
        }

        void layThing(int kind, int ofStuff, int ofWet) {
            if (things < MOST_THINGS) {
                kinds[things] = kind;
                stuff[things] = ofStuff;
                wet[things] = ofWet;
                places[things] = things;
                things++;
            }
        }

        void takeFrom(Heap other) {
            things = other.things;
            System.arraycopy(other.kinds, 0, kinds, 0, MOST_THINGS);
            System.arraycopy(other.stuff, 0, stuff, 0, MOST_THINGS);
            System.arraycopy(other.wet, 0, wet, 0, MOST_THINGS);
            System.arraycopy(other.places, 0, places, 0, MOST_THINGS);
            lit = other.lit;
            out = other.out;
            wind = other.wind;
            smoke = other.smoke;
            hour = other.hour;
        }

        boolean hasThing(int thing) {
            return thing >= 0 && thing < things;
        }

        int allThings() {
            return (1 << things) - 1;
        }

        boolean isLit(int thing) {
            return (lit >> thing & 1) == 1;
        }

        boolean isOut(int thing) {
            return (out >> thing & 1) == 1;
        }

        boolean isAsh(int thing) {
            return stuff[thing] == 0;
        }

        /** Whether it could yet burn some day, however wet it is. */
        boolean canBurn(int thing) {
            return STUFF_AN_HOUR[kinds[thing]] > 0 && !isAsh(thing) && !isOut(thing);
        }

        boolean mayBeLit(int thing) {
            return canBurn(thing) && wet[thing] == 0 && !isLit(thing);
        }

        int ashes() {
            int set = 0;
            for (int t = 0; t < things; t++) {
                if (isAsh(t)) {
                    set |= 1 << t;
                }
            }
            return set;
        }

        int burnables() {
            int set = 0;
            for (int t = 0; t < things; t++) {
                if (canBurn(t)) {
                    set |= 1 << t;
                }
            }
            return set;
        }

        int lightables() {
            int set = 0;
            for (int t = 0; t < things; t++) {
                if (mayBeLit(t)) {
                    set |= 1 << t;
                }
            }
            return set;
        }

        void lightByHand(int thing) {
            lit |= 1 << thing;
        }

        void quench(int thing) {
            lit &= ~(1 << thing);
        }

        void pourOn(int thing, int n) {
            wet[thing] = Math.min(MOST_WET, wet[thing] + n);
            quench(thing);
        }

        void rakeOut(int thing) {
            out |= 1 << thing;
            quench(thing);
        }

        void layOn(int thing) {
            out &= ~(1 << thing);
        }

        void changePlaces(int one, int other) {
            int kept = places[one];
            places[one] = places[other];
            places[other] = kept;
        }

        void turnWind() {
            wind = 1 - wind;
        }

        int heatOf(int thing) {
            int fire = placesLit();
            return isOut(thing) ? 0 : heatAt(places[thing], fire, placesOfHotIron(fire));
        }

        void passHour() {
            hour++;
            if (lit == 0) {
                // where nothing is lit there is no heat, and nothing else changes
                return;
            }
            int litAhead = lit;
            int fire = placesLit();
            int hotIron = placesOfHotIron(fire);
            for (int t = 0; t < things; t++) {
                int heat = isOut(t) ? 0 : heatAt(places[t], fire, hotIron);
                if ((litAhead >> t & 1) == 1) {
                    burnDown(t);
                } else if (heat >= 2 && mayBeLit(t)) {
                    lit |= 1 << t;
                }
                wet[t] = Math.max(0, wet[t] - heat);
            }
        }

        private void burnDown(int thing) {
            int kind = kinds[thing];
            stuff[thing] = Math.max(0, stuff[thing] - STUFF_AN_HOUR[kind]);
            smoke = Math.min(MOST_SMOKE, smoke + SMOKE_AN_HOUR[kind]);
            if (isAsh(thing)) {
                quench(thing);
            }
        }

        private int heatAt(int place, int fire, int hotIron) {
            int beside = placesBeside(place);
            int windward = wind == 1 ? 1 << place >> 2 : 1 << place << 2;
            int blown = (fire & windward) != 0 ? 1 : 0;
            return 2 * Integer.bitCount(fire & beside) + blown + Integer.bitCount(hotIron & beside);
        }

        private int placesLit() {
            int set = 0;
            for (int t = 0; t < things; t++) {
                if (isLit(t)) {
                    set |= 1 << places[t];
                }
            }
            return set;
        }

        private int placesOfHotIron(int fire) {
            int set = 0;
            for (int t = 0; t < things; t++) {
                if (kinds[t] == IRON && !isOut(t) && (fire & placesBeside(places[t])) != 0) {
                    set |= 1 << places[t];
                }
            }
            return set;
        }

        private static int placesBeside(int place) {
            return 1 << place << 1 | 1 << place >> 1;
        }
    }

    /** The heap as it was ahead of each of the latest acts, in a ring whose oldest is written over. */
    private static final class Acts {
        int kept = 0;
        private int next = 0;
        private final int[] stuff = new int[MOST_ACTS * MOST_THINGS];
        private final int[] wet = new int[MOST_ACTS * MOST_THINGS];
        private final int[] places = new int[MOST_ACTS * MOST_THINGS];
        private final int[] lit = new int[MOST_ACTS];
        private final int[] out = new int[MOST_ACTS];
        private final int[] wind = new int[MOST_ACTS];
        private final int[] smoke = new int[MOST_ACTS];
        private final int[] hour = new int[MOST_ACTS];

        void forget() {
            kept = 0;
        }

        void keep(Heap heap) {
            System.arraycopy(heap.stuff, 0, stuff, next * MOST_THINGS, MOST_THINGS);
            System.arraycopy(heap.wet, 0, wet, next * MOST_THINGS, MOST_THINGS);
            System.arraycopy(heap.places, 0, places, next * MOST_THINGS, MOST_THINGS);
            lit[next] = heap.lit;
            out[next] = heap.out;
            wind[next] = heap.wind;
            smoke[next] = heap.smoke;
            hour[next] = heap.hour;
            next = (next + 1) % MOST_ACTS;
            kept = Math.min(MOST_ACTS, kept + 1);
        }

        void takeBack(Heap heap) {
            if (kept == 0) {
                return;
            }
            next = (next + MOST_ACTS - 1) % MOST_ACTS;
            kept--;
            System.arraycopy(stuff, next * MOST_THINGS, heap.stuff, 0, MOST_THINGS);
            System.arraycopy(wet, next * MOST_THINGS, heap.wet, 0, MOST_THINGS);
            System.arraycopy(places, next * MOST_THINGS, heap.places, 0, MOST_THINGS);
            heap.lit = lit[next];
            heap.out = out[next];
            heap.wind = wind[next];
            heap.smoke = smoke[next];
            heap.hour = hour[next];
        }
    }

    /** What would come of a heap: all is tried on one heap of its own, so that nothing changes. */
    private static final class Foretold {
        static final int SORT = 0, WETS = 1, STUFFS = 2, WINDS = 3, SURE = 10;
        private static final int[] LEAST_FIT = {STICK, 0, 1, 0};
        private static final int[] MOST_FIT = {IRON, MOST_WET, MOST_STUFF, 1};
        private static final int RAINFALL = 3;
        private static final long FACTOR = 16807L, MODULUS = 2147483647L;

        private final Heap trial = new Heap();

        Heap hoursOn(Heap now, int d) {
            trial.takeFrom(now);
            tryHours(d);
            return trial;
        }

        int caughtBehind(Heap now, int thing) {
            trial.takeFrom(now);
            return tryUntilLit(thing, DAY);
        }

        int ashBehind(Heap now, int thing) {
            trial.takeFrom(now);
            for (int h = 0; h <= DAY; h++) {
                if (trial.isAsh(thing)) {
                    return h;
                }
                trial.passHour();
            }
            return NONE;
        }

        int deadBehind(Heap now) {
            trial.takeFrom(now);
            for (int h = 0; h <= LONG_NIGHT; h++) {
                if (trial.lit == 0) {
                    return h;
                }
                trial.passHour();
            }
            return NONE;
        }

        int leftWhenDead(Heap now) {
            trial.takeFrom(now);
            tryHours(LONG_NIGHT);
            return trial.allThings() & ~trial.ashes() & ~trial.out;
        }

        /** Sets go up from 0, and one as large as the best is passed over: so the least one stays. */
        int fewestToLight(Heap now, int wanted, int n) {
            if ((wanted & ~(now.ashes() | now.burnables())) != 0) {
                return NONE;
            }
            int mayNotBe = ~now.lightables();
            int best = NONE;
            int fewest = MOST_THINGS + 1;
            for (int hand = 0; hand <= now.allThings(); hand++) {
                int size = Integer.bitCount(hand);
                if ((hand & mayNotBe) == 0 && size < fewest && makesAsh(now, hand, wanted, n)) {
                    best = hand;
                    fewest = size;
                }
            }
            return best;
        }

        int leastWater(Heap now, int thing, int n) {
            for (int water = 0; water <= MOST_WET; water++) {
                trial.takeFrom(now);
                if (water > 0) {
                    trial.pourOn(thing, water);
                }
                if (tryUntilLit(thing, n) == NONE) {
                    return water;
                }
            }
            return NONE;
        }

        int bestLaying(Heap now, int n, boolean asPair) {
            int pair = NONE;
            int most = NONE;
            for (int a = 0; a < now.things; a++) {
                for (int b = a + 1; b < now.things; b++) {
                    trial.takeFrom(now);
                    trial.changePlaces(a, b);
                    tryHours(n);
                    int ashes = Integer.bitCount(trial.ashes());
                    if (ashes > most) {
                        pair = 10 * a + b;
                        most = ashes;
                    }
                }
            }
            return asPair ? pair : most;
        }

        int whatFits(Heap now, int thing, Row row, int from, int n, int what) {
            int fitting = 0;
            for (int guess = LEAST_FIT[what]; guess <= MOST_FIT[what]; guess++) {
                trial.takeFrom(now);
                suppose(thing, what, guess);
                if (burnsAsTold(thing, row, from, n)) {
                    fitting |= 1 << guess;
                }
            }
            return fitting;
        }

        /**
         * Rain makes a difference to what can burn alone: with the others left out, above and below
         * are less by the same factor.
         */
        int ashInRain(Heap now, int thing, int n, int c, boolean asAbove) {
            int rainedOn = now.burnables();
            int above = 0;
            for (int wetted = 0; wetted <= rainedOn; wetted++) {
                if ((wetted & ~rainedOn) == 0) {
                    int size = Integer.bitCount(wetted);
                    int dry = Integer.bitCount(rainedOn) - size;
                    int weight = power(c, size) * power(SURE - c, dry);
                    if (weight > 0 && isAshWhenWetted(now, wetted, thing, n)) {
                        above += weight;
                    }
                }
            }
            int below = power(SURE, Integer.bitCount(rainedOn));
            int shared = greatestDivisor(above, below);
            int number = asAbove ? above : below;
            return shared == 0 ? number : number / shared;
        }

        Heap yearByDraws(Heap now, int n, int seed) {
            trial.takeFrom(now);
            trial.smoke = 0;
            long x = seed;
            for (int h = 0; h < n; h++) {
                x = x * FACTOR % MODULUS;
                tryDraw(x);
                trial.passHour();
            }
            return trial;
        }

        private void tryDraw(long x) {
            if (trial.isNone()) {
                return;
            }
            int thing = (int) (x % trial.things);
            if (x % 2 == 0 && trial.mayBeLit(thing)) {
                trial.lightByHand(thing);
            } else if (x % 5 == 0 && !trial.isOut(thing)) {
                trial.pourOn(thing, (int) (x % 4));
            }
            if (x % 7 == 0) {
                trial.turnWind();
            }
        }

        private void tryHours(int n) {
            for (int h = 0; h < n && trial.lit != 0; h++) {
                trial.passHour();
            }
        }

        private int tryUntilLit(int thing, int most) {
            for (int h = 0; h <= most && trial.lit != 0; h++) {
                if (trial.isLit(thing)) {
                    return h;
                }
                trial.passHour();
            }
            return NONE;
        }

        private boolean makesAsh(Heap now, int hand, int wanted, int n) {
            trial.takeFrom(now);
            trial.lit |= hand;
            tryHours(n);
            return (wanted & ~trial.ashes()) == 0;
        }

        private boolean isAshWhenWetted(Heap now, int wetted, int thing, int n) {
            trial.takeFrom(now);
            for (int t = 0; t < trial.things; t++) {
                if ((wetted >> t & 1) == 1) {
                    trial.pourOn(t, RAINFALL);
                }
            }
            // what is ash stays ash
            for (int h = 0; h < n && trial.lit != 0 && !trial.isAsh(thing); h++) {
                trial.passHour();
            }
            return trial.isAsh(thing);
        }

        private void suppose(int thing, int what, int guess) {
            if (what == SORT) {
                trial.kinds[thing] = guess;
                if (!isOfKind(guess, STICK)) {
                    trial.quench(thing);
                }
            } else if (what == WETS) {
                trial.wet[thing] = guess;
            } else if (what == STUFFS) {
                trial.stuff[thing] = guess;
            } else {
                trial.wind = guess;
            }
        }

        private boolean burnsAsTold(int thing, Row row, int from, int n) {
            for (int h = 0; h < n; h++) {
                trial.passHour();
                if (trial.stuff[thing] != row.items[from + h]) {
                    return false;
                }
            }
            return true;
        }

        private static int power(int base, int exponent) {
            int product = 1;
            for (int i = 0; i < exponent; i++) {
                product *= base;
            }
            return product;
        }

        private static int greatestDivisor(int one, int other) {
            int a = one;
            int b = other;
            for (int step = 0; step < 64 && b != 0; step++) {
                int rest = a % b;
                a = b;
                b = rest;
            }
            return a;
        }
    }

    /**
     * Asks of things. SIZE and MARK choose the body by the kind of the thing each time they are
     * asked, within a body too; a body that wants what another gives calls that one by its number.
     */
    private static final class Asks {
        private static final int MOST_TRACED = 16, DEEPEST = 16;

        final int[] bodies = new int[MOST_TRACED];
        int traced = 0;
        private int number = 0;
        private int kind = THING;
        private int stuff = 0;
        private int wet = 0;

        int answer(Heap heap, int thing, boolean size) {
            number = thing;
            kind = heap.kinds[thing];
            stuff = heap.stuff[thing];
            wet = heap.wet[thing];
            traced = 0;
            return size ? askSize(0) : askMark(0);
        }

        private int askSize(int depth) {
            if (depth > DEEPEST) {
                return 0;
            }
            switch (kind) {
                case STICK:
                case LETTER:
                    return body11(depth + 1);
                case GREEN:
                    return body12(depth + 1);
                case DOOR:
                    return body13();
                case IRON:
                    return body14();
                default:
                    return body10();
            }
        }

        private int askMark(int depth) {
            if (depth > DEEPEST) {
                return 0;
            }
            switch (kind) {
                case STICK:
                    return body21();
                case LETTER:
                    return body22();
                case DOOR:
                case IRON:
                    return body23(depth + 1);
                case GREEN:
                    return body24();
                default:
                    return body20();
            }
        }

        private int body10() {
            leaveTrace(10);
            return stuff;
        }

        private int body11(int depth) {
            leaveTrace(11);
            int lent = body10();
            return lent + askMark(depth);
        }

        private int body12(int depth) {
            leaveTrace(12);
            return -body11(depth);
        }

        private int body13() {
            leaveTrace(13);
            return body10() - 100;
        }

        private int body14() {
            leaveTrace(14);
            return 2 * body13();
        }

        private int body20() {
            leaveTrace(20);
            return number;
        }

        private int body21() {
            leaveTrace(21);
            return body20() + wet;
        }

        private int body22() {
            leaveTrace(22);
            return body21() - 1000;
        }

        private int body23(int depth) {
            leaveTrace(23);
            int lent = body20();
            return lent - askSize(depth);
        }

        private int body24() {
            leaveTrace(24);
            return 2 * body21();
        }

        private void leaveTrace(int body) {
            if (traced < MOST_TRACED) {
                bodies[traced] = body;
                traced++;
            }
        }
    }
}
