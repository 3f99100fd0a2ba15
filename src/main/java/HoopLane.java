import java.util.Arrays;

/** A hoop down a lane of grounds: moments, taps, and what is foretold of them (see DOC.md). */
public final class HoopLane {
    public static final int NONE = -1000000, BAD = -1000001, STATE = -1000002, FULL = -1000003;

    private static final int FINDINGS = -1000010, FAULTS = -1000100;
    private static final int NULL = 1, PLACE = 2, KIND = 3, SIZE = 4, STORE = 5;

    private static final int ROWS = 8, ITEMS = 40, BYTES = 100, YARDS = 24, TAPS = 5, ACTS = 24, IMAGES = 2;
    private static final int LAST_MOMENT = 999, MISSED_TAPS = 8;

    private static final int ROLLING = 0, DOWN = 1, HOME = 2;
    private static final int FLAT = 0, DOWNHILL = 1, UPHILL = 2, RUT = 3, STONE = 4, WET = 5;
    /** NO_TAP stands where a KIND is told of a MOMENT without a TAP: no TAP is told as one of KIND 0. */
    private static final int NO_TAP = 0, DRIVING = 1, RIGHTING = 2, HOPPING = 3, BRAKING = 4, RUTTED = 5;
    /** For each KIND the nearest KIND that it is, too. */
    private static final int[] NEAREST = {-1, 0, 1, 1, 0, 4};

    private final Row[] rows = new Row[ROWS];
    private final Lane[] images = new Lane[IMAGES];
    private final Lane lane = new Lane();
    /** What is read, till it is known to have no FAULT. */
    private final Lane read = new Lane();
    private final Tape tape = new Tape();
    private final Acts acts = new Acts();
    private final Paths paths = new Paths();
    private final Asks asks = new Asks();
    /** The hoop that is tried where something is foretold. */
    private final Hoop trial = new Hoop();
    private int fault = 0;
    private int status = 0;

    public HoopLane() {
        for (int k = 0; k < ROWS; k++) {
            rows[k] = new Row();
        }
        for (int k = 0; k < IMAGES; k++) {
            images[k] = new Lane();
        }
    }

    // ---- rows

    public int row(int row, int lane, int n) {
        if (isOut(row, 0, ROWS - 1) || isOut(lane, 0, 2) || n > ITEMS) {
            return BAD;
        }
        if (n < 0) {
            return found(SIZE);
        }
        rows[row].become(lane, n);
        status = 0;
        return n;
    }

    public int set(int row, int i, int v) {
        if (isOut(row, 0, ROWS - 1)) {
            return BAD;
        }
        int finding = rows[row].findingAt(i, 1);
        if (finding != 0) {
            return found(finding);
        }
        status = 0;
        return rows[row].put(i, v);
    }

    public int copy(int a, int i, int b, int j, int n) {
        if (isOut(a, 0, ROWS - 1) || isOut(b, 0, ROWS - 1)) {
            return BAD;
        }
        Row from = rows[a];
        Row to = rows[b];
        if (from.isMissing() || to.isMissing()) {
            return found(NULL);
        }
        if (from.width != to.width) {
            return found(STORE);
        }
        if (from.findingAt(i, n) != 0 || to.findingAt(j, n) != 0) {
            return found(PLACE);
        }
        System.arraycopy(from.items, i, to.items, j, n);
        status = 0;
        return n;
    }

    public int drop(int row) {
        if (isOut(row, 0, ROWS - 1)) {
            return BAD;
        }
        if (rows[row].isMissing()) {
            return found(NULL);
        }
        int items = rows[row].size;
        rows[row].become(Row.MISSING, 0);
        status = 0;
        return items;
    }

    // ---- what is told

    public int feed(int letter) {
        if (isOut(letter, 0, 255)) {
            return BAD;
        }
        return tape.add(letter) ? tape.size : FULL;
    }

    public int lane() {
        int number = tape.readInto(read);
        int place = tape.at;
        tape.clear();
        if (number != 0) {
            fault = number;
            return FAULTS - place;
        }
        lane.be(read);
        acts.clear();
        return lane.taps;
    }

    public int fault() {
        return fault;
    }

    public int undo() {
        if (acts.count == 0) {
            return STATE;
        }
        acts.takeBack(lane);
        return acts.count;
    }

    // ---- what is done

    public int moment(int tap) {
        if (!lane.isThere()) {
            return STATE;
        }
        if (isOut(tap, -1, lane.taps - 1)) {
            return BAD;
        }
        if (lane.hoop.end != ROLLING) {
            return STATE;
        }
        if (lane.moment >= LAST_MOMENT) {
            return FULL;
        }
        acts.keep(lane, 0);
        lane.hoop.pass(lane, lane.kindAt(tap), lane.forceAt(tap));
        lane.moment++;
        return lane.hoop.yard;
    }

    public int setUp(int yard, int pace, int lean) {
        if (!lane.isThere()) {
            return STATE;
        }
        if (isOut(yard, 0, lane.yards - 1) || isOut(pace, 1, 9) || isOut(lean, 0 - lane.holds, lane.holds)) {
            return BAD;
        }
        int before = lane.hoop.yard;
        acts.keep(lane, 0);
        lane.hoop.stand(yard, pace, lean);
        return before;
    }

    public int lay(int yard, int ground) {
        if (!lane.isThere()) {
            return STATE;
        }
        if (isOut(yard, 0, lane.yards - 1) || isOut(ground, FLAT, WET)) {
            return BAD;
        }
        int before = lane.grounds[yard];
        acts.keep(lane, yard);
        lane.grounds[yard] = ground;
        return before;
    }

    public int hoop(int what) {
        if (!lane.isThere()) {
            return STATE;
        }
        if (isOut(what, 0, 4)) {
            return BAD;
        }
        return what == 4 ? lane.moment : lane.hoop.tell(what);
    }

    public int ground(int yard) {
        return isOut(yard, 0, lane.yards - 1) ? BAD : lane.grounds[yard];
    }

    public int force(int tap) {
        return isOut(tap, 0, lane.taps - 1) ? BAD : lane.forceAt(tap);
    }

    // ---- foretold

    public int ahead(int n, int what) {
        if (!lane.isThere()) {
            return STATE;
        }
        if (isOut(n, 0, 40) || isOut(what, 0, 3)) {
            return BAD;
        }
        trial.be(lane.hoop);
        for (int k = 0; k < n; k++) {
            trial.pass(lane, NO_TAP, 0);
        }
        return trial.tell(what);
    }

    public int fewest(int what) {
        return leastCost(what, 1, 0);
    }

    public int soonest(int what) {
        return leastCost(what, 0, 1);
    }

    public int heldFrom() {
        if (!lane.isThere()) {
            return STATE;
        }
        if (lane.hoop.end != ROLLING) {
            return NONE;
        }
        for (int pace = 1; pace <= 9; pace++) {
            trial.stand(lane.hoop.yard, pace, lane.hoop.lean);
            if (canBeHome(trial)) {
                return pace;
            }
        }
        return NONE;
    }

    public int righted() {
        if (!lane.isThere()) {
            return STATE;
        }
        if (lane.taps == 0 || lane.hoop.end != ROLLING) {
            return NONE;
        }
        int leans = 0;
        for (int lean = 0; lean <= lane.holds; lean++) {
            trial.stand(lane.hoop.yard, lane.hoop.pace, lean);
            if (canBeHome(trial)) {
                leans++;
            }
        }
        return leans;
    }

    public int plan(int row, int i, int n, int what) {
        if (!lane.isThere()) {
            return STATE;
        }
        if (isOut(row, 0, ROWS - 1) || isOut(n, 0, 24) || isOut(what, 0, 1)) {
            return BAD;
        }
        Row told = rows[row];
        int finding = told.findingAt(i, n);
        if (finding != 0) {
            return found(finding);
        }
        if (tapsIn(told, i, n) == NONE) {
            return BAD;
        }
        status = 0;
        trial.be(lane.hoop);
        int moments = 0;
        while (moments < n && trial.end == ROLLING) {
            int tap = told.items[i + moments];
            trial.pass(lane, lane.kindAt(tap), lane.forceAt(tap));
            moments++;
        }
        return what == 0 ? moments : trial.end;
    }

    public int seen(int row, int i, int n, int what) {
        if (!lane.isThere()) {
            return STATE;
        }
        if (isOut(row, 0, ROWS - 1) || isOut(n, 1, 8) || isOut(what, 0, 1)) {
            return BAD;
        }
        if (lane.hoop.end != ROLLING) {
            return STATE;
        }
        int finding = rows[row].findingAt(i, n);
        if (finding != 0) {
            return found(finding);
        }
        status = 0;
        return what == 0 ? pacesSeen(rows[row], i, n) : leansSeen(rows[row], i, n);
    }

    public int who(int tap, int row, int i, int n) {
        if (isOut(tap, 0, lane.taps - 1) || isOut(row, 0, ROWS - 1) || isOut(n, 1, 8)) {
            return BAD;
        }
        if (lane.hoop.end != ROLLING) {
            return STATE;
        }
        int finding = rows[row].findingAt(i, n);
        if (finding != 0) {
            return found(finding);
        }
        status = 0;
        int kinds = 0;
        for (int kind = DRIVING; kind <= RUTTED; kind++) {
            trial.be(lane.hoop);
            trial.pass(lane, kind, lane.forceAt(tap));
            if (comesSo(rows[row], i, n)) {
                kinds |= 1 << kind;
            }
        }
        return kinds;
    }

    public int falls() {
        if (!lane.isThere()) {
            return STATE;
        }
        paths.walk(lane, lane.hoop, 1, 0, Paths.FAR);
        return paths.falls;
    }

    public int mend(int what) {
        if (!lane.isThere()) {
            return STATE;
        }
        if (isOut(what, 0, 1)) {
            return BAD;
        }
        // YARD 0 is never ahead of the hoop: it is the first of all YARDS whose mending changes nothing.
        paths.walk(lane, lane.hoop, 1, 0, Paths.FAR);
        int fewest = paths.cost();
        int where = 0;
        for (int yard = lane.hoop.yard + 1; yard < lane.yards && fewest > 0; yard++) {
            int mended = fewestIfFlat(yard, fewest);
            if (mended < fewest) {
                fewest = mended;
                where = yard;
            }
        }
        if (fewest == Paths.FAR) {
            return NONE;
        }
        return what == 0 ? where : fewest;
    }

    public long miss(int row, int i, int n, int p, int what) {
        if (!lane.isThere()) {
            return STATE;
        }
        if (isOut(row, 0, ROWS - 1) || isOut(n, 1, 24) || isOut(p, 0, 10) || isOut(what, 0, 1)) {
            return BAD;
        }
        Row told = rows[row];
        int finding = told.findingAt(i, n);
        if (finding != 0) {
            return found(finding);
        }
        int taps = tapsIn(told, i, n);
        if (taps == NONE || taps > MISSED_TAPS) {
            return BAD;
        }
        status = 0;
        long above = 0;
        for (int missed = 0; missed < 1 << taps; missed++) {
            if (isHomeIf(missed, told, i, n)) {
                int misses = Integer.bitCount(missed);
                above += power(p, misses) * power(10 - p, taps - misses);
            }
        }
        long below = power(10, taps);
        long common = commonDivisor(below, above);
        if (common == 0) {
            return NONE;
        }
        return what == 0 ? above / common : below / common;
    }

    public int drawn(int n, int seed, int what) {
        if (!lane.isThere()) {
            return STATE;
        }
        if (isOut(n, 0, 40) || isOut(seed, 1, 999999) || isOut(what, 0, 1)) {
            return BAD;
        }
        trial.be(lane.hoop);
        long x = seed;
        int moments = 0;
        while (moments < n && trial.end == ROLLING) {
            x = x * 16807 % 2147483647;
            int tap = (int) (x % 8);
            trial.pass(lane, lane.kindAt(tap), lane.forceAt(tap));
            moments++;
        }
        return what == 0 ? trial.yard : moments;
    }

    public int image(int k) {
        if (isOut(k, 0, IMAGES - 1)) {
            return BAD;
        }
        if (!lane.isThere()) {
            return STATE;
        }
        images[k].be(lane);
        return 1;
    }

    public int restore(int k) {
        if (isOut(k, 0, IMAGES - 1)) {
            return BAD;
        }
        if (!images[k].isThere()) {
            return STATE;
        }
        lane.be(images[k]);
        acts.clear();
        return 1;
    }

    // ---- asked

    public int kind(int one) {
        return isOut(one, 0, lane.taps - 1) ? BAD : lane.kindAt(one);
    }

    public int as(int one, int kind) {
        if (isOut(one, 0, lane.taps - 1) || isOut(kind, 0, RUTTED)) {
            return BAD;
        }
        if (!isOfKind(lane.kindAt(one), kind)) {
            return found(KIND);
        }
        status = 0;
        return one;
    }

    public int ask(int one, int what) {
        if (isOut(one, 0, lane.taps - 1) || isOut(what, 0, 1)) {
            return BAD;
        }
        asks.begin(lane, one);
        return what == 0 ? asks.size() : asks.mark();
    }

    public int trace(int i) {
        return isOut(i, 0, asks.bodies - 1) ? NONE : asks.trace[i];
    }

    public int count(int what) {
        switch (what) {
            case 0: return rowsThere();
            case 1: return lane.yards;
            case 2: return lane.taps;
            case 3: return lane.holds;
            case 4: return lane.drag;
            case 5: return lane.moment;
            case 6: return acts.count;
            case 7: return tape.size;
            default: return BAD;
        }
    }

    public int status() {
        return status;
    }

    // ---- what the calls are made of

    private static boolean isOut(int number, int least, int most) {
        return number < least || number > most;
    }

    private int found(int finding) {
        status = finding;
        return FINDINGS - finding;
    }

    private int rowsThere() {
        int there = 0;
        for (int k = 0; k < ROWS; k++) {
            if (!rows[k].isMissing()) {
                there++;
            }
        }
        return there;
    }

    /** How many of n ITEMS are TAPS; NONE, if one is no TAP, nor -1. */
    private int tapsIn(Row row, int i, int n) {
        int taps = 0;
        for (int k = i; k < i + n; k++) {
            if (isOut(row.items[k], -1, lane.taps - 1)) {
                return NONE;
            }
            if (row.items[k] >= 0) {
                taps++;
            }
        }
        return taps;
    }

    /** The least cost by which it is HOME (what = 0), what is done first (1). */
    private int leastCost(int what, int ofTap, int ofMoment) {
        if (!lane.isThere()) {
            return STATE;
        }
        if (isOut(what, 0, 1)) {
            return BAD;
        }
        paths.walk(lane, lane.hoop, ofTap, ofMoment, Paths.FAR);
        if (paths.cost() == Paths.FAR) {
            return NONE;
        }
        return what == 0 ? paths.cost() : paths.first();
    }

    private boolean canBeHome(Hoop from) {
        paths.walk(lane, from, 1, 0, Paths.FAR);
        return paths.cost() != Paths.FAR;
    }

    /** The fewest TAPS, if they are fewer than so many, were the GROUND of a YARD flat. */
    private int fewestIfFlat(int yard, int below) {
        int before = lane.grounds[yard];
        if (before == FLAT) {
            return below;
        }
        lane.grounds[yard] = FLAT;
        paths.walk(lane, lane.hoop, 1, 0, below);
        lane.grounds[yard] = before;
        return paths.cost();
    }

    private int pacesSeen(Row row, int i, int n) {
        int paces = 0;
        for (int pace = 1; pace <= 9; pace++) {
            trial.stand(lane.hoop.yard, pace, lane.hoop.lean);
            trial.pass(lane, NO_TAP, 0);
            if (comesSo(row, i, n)) {
                paces |= 1 << pace;
            }
        }
        return paces;
    }

    private int leansSeen(Row row, int i, int n) {
        int leans = 0;
        for (int lean = 0 - lane.holds; lean <= lane.holds; lean++) {
            trial.stand(lane.hoop.yard, lane.hoop.pace, lean);
            trial.pass(lane, NO_TAP, 0);
            if (comesSo(row, i, n)) {
                leans |= 1 << lean + 5;
            }
        }
        return leans;
    }

    /** Whether the trial, one MOMENT on, is and goes on without TAPS by n YARDS that a row tells. */
    private boolean comesSo(Row row, int i, int n) {
        for (int k = 0; k < n; k++) {
            if (trial.yard != row.items[i + k]) {
                return false;
            }
            trial.pass(lane, NO_TAP, 0);
        }
        return true;
    }

    /** Whether a PLAN ends HOME, if those of its TAPS miss whose bits are set. */
    private boolean isHomeIf(int missed, Row row, int i, int n) {
        trial.be(lane.hoop);
        int taps = 0;
        for (int k = 0; k < n && trial.end == ROLLING; k++) {
            int tap = row.items[i + k];
            if (tap >= 0) {
                tap = (missed >> taps & 1) == 1 ? -1 : tap;
                taps++;
            }
            trial.pass(lane, lane.kindAt(tap), lane.forceAt(tap));
        }
        return trial.end == HOME;
    }

    private static long power(int base, int times) {
        long product = 1;
        for (int k = 0; k < times; k++) {
            product *= base;
        }
        return product;
    }

    private static long commonDivisor(long a, long b) {
        long divisor = a;
        long rest = b;
        for (int k = 0; k < 1000 && rest != 0; k++) {
            long next = divisor % rest;
            divisor = rest;
            rest = next;
        }
        return divisor;
    }

    private static boolean isOfKind(int kind, int asked) {
        int one = kind;
        for (int k = 0; k < NEAREST.length && one >= 0 && one < NEAREST.length; k++) {
            if (one == asked) {
                return true;
            }
            one = NEAREST[one];
        }
        return false;
    }

    /** A ROW: ITEMS of a width (bytes, shorts, ints), or missing. */
    private static final class Row {
        static final int MISSING = -1;

        final int[] items = new int[ITEMS];
        int width = MISSING;
        int size = 0;

        boolean isMissing() {
            return width == MISSING;
        }

        void become(int newWidth, int n) {
            width = newWidth;
            size = n;
            Arrays.fill(items, 0);
        }

        int put(int i, int v) {
            items[i] = width == 0 ? (byte) v : width == 1 ? (short) v : v;
            return items[i];
        }

        /** The FINDING where n ITEMS from i on are asked for; 0: they are there. */
        int findingAt(int i, int n) {
            if (isMissing()) {
                return NULL;
            }
            return i < 0 || n < 0 || i > size - n ? PLACE : 0;
        }
    }

    /** THE TAPE, and how a LANE is read from it. After a FAULT all that is asked for is passed over. */
    private static final class Tape {
        private static final char[] GROUNDS = {'f', 'd', 'u', 'r', 's', 'w'};
        private static final char[] SORTS = {'v', 'i', 'o', 'b', 't'};

        private final int[] bytes = new int[BYTES];
        int size = 0;
        /** Where the TOKEN begins that is read next, or has the FAULT. */
        int at = 0;
        private int fault = 0;

        boolean add(int letter) {
            if (size >= BYTES) {
                return false;
            }
            bytes[size] = letter;
            size++;
            return true;
        }

        void clear() {
            size = 0;
        }

        /** The FAULT; 0: there is none, and the LANE is as told. */
        int readInto(Lane lane) {
            at = 0;
            fault = 0;
            readLaw(lane);
            readGrounds(lane);
            readTaps(lane);
            return fault;
        }

        private void readLaw(Lane lane) {
            readSign('h');
            int pace = readNumber(1, 9);
            readSign(',');
            int lean = readNumber(0, 4) - 2;
            readSign(',');
            lane.holds = readNumber(1, 5);
            readSign(',');
            lane.drag = readNumber(0, 3);
            readSign(';');
            lane.hoop.stand(0, pace, lean);
            lane.moment = 0;
        }

        private void readGrounds(Lane lane) {
            readSign('g');
            lane.yards = 0;
            int ground = lookUp(GROUNDS);
            while (fault == 0 && ground >= 0 && lane.yards < YARDS) {
                lane.grounds[lane.yards] = ground;
                lane.yards++;
                at++;
                ground = lookUp(GROUNDS);
            }
            if (lane.yards == 0) {
                fail(1);
            }
            readSign(';');
        }

        private void readTaps(Lane lane) {
            lane.taps = 0;
            // One more than there is room for is read, as a FAULT.
            for (int k = 0; k <= TAPS && fault == 0 && at < size; k++) {
                readTap(lane);
            }
        }

        private void readTap(Lane lane) {
            int sort = lookUp(SORTS);
            if (sort < 0) {
                fail(1);
                return;
            }
            if (lane.taps >= TAPS) {
                fail(3);
                return;
            }
            at++;
            lane.kinds[lane.taps] = DRIVING + sort;
            lane.forces[lane.taps] = readNumber(1, 5);
            lane.taps++;
            readSign(';');
        }

        /** Which of the letters stands here; -1: none of them. */
        private int lookUp(char[] letters) {
            for (int k = 0; k < letters.length && at < size; k++) {
                if (bytes[at] == letters[k]) {
                    return k;
                }
            }
            return -1;
        }

        private void readSign(char sign) {
            if (fault != 0) {
                return;
            }
            if (at >= size || bytes[at] != sign) {
                fail(1);
                return;
            }
            at++;
        }

        private int readNumber(int least, int most) {
            int number = 0;
            int end = at;
            while (end < size && bytes[end] >= '0' && bytes[end] <= '9') {
                number = number * 10 + bytes[end] - '0';
                end++;
            }
            if (end == at || end > at + 2) {
                fail(1);
            } else if (isOut(number, least, most)) {
                fail(2);
            }
            if (fault == 0) {
                at = end;
            }
            return number;
        }

        /** The first FAULT counts. */
        private void fail(int number) {
            if (fault == 0) {
                fault = number;
            }
        }
    }

    /** The hoop: where it is, its PACE, its LEAN, and whether it is DOWN, HOME. */
    private static final class Hoop {
        int yard = 0;
        int pace = 0;
        int lean = 0;
        int end = ROLLING;

        void be(Hoop other) {
            yard = other.yard;
            pace = other.pace;
            lean = other.lean;
            end = other.end;
        }

        void stand(int newYard, int newPace, int newLean) {
            yard = newYard;
            pace = newPace;
            lean = newLean;
            end = ROLLING;
        }

        int tell(int what) {
            switch (what) {
                case 0: return yard;
                case 1: return pace;
                case 2: return lean;
                default: return end;
            }
        }

        /** A MOMENT, with a TAP of a KIND and FORCE, or NO_TAP; none, if it is DOWN, HOME. */
        void pass(Lane lane, int kind, int force) {
            if (end != ROLLING) {
                return;
            }
            takeTap(kind, force);
            yard += pace / 3 + 1;
            if (yard >= lane.yards) {
                yard = lane.yards;
                end = HOME;
                return;
            }
            if (kind != HOPPING) {
                comeTo(lane.grounds[yard]);
            }
            changePace(0 - lane.drag);
            if (pace < 4) {
                leanFurther(1, yard % 2 == 0 ? 1 : -1);
            }
            if (isOut(lean, 0 - lane.holds, lane.holds) || pace == 0) {
                end = DOWN;
            }
        }

        private void takeTap(int kind, int force) {
            switch (kind) {
                case DRIVING:
                case HOPPING:
                    changePace(force);
                    break;
                case RIGHTING:
                    changePace(force / 2);
                    lean = lean > 0 ? Math.max(0, lean - force) : Math.min(0, lean + force);
                    break;
                case BRAKING:
                    changePace(0 - force);
                    break;
                case RUTTED:
                    changePace(0 - force);
                    lean = 0;
                    break;
                default:
                    break;
            }
        }

        private void comeTo(int ground) {
            switch (ground) {
                case DOWNHILL:
                    changePace(2);
                    break;
                case UPHILL:
                    changePace(-1);
                    break;
                case RUT:
                    lean = 0;
                    break;
                case STONE:
                    leanFurther(2, 2);
                    break;
                case WET:
                    changePace(-1);
                    leanFurther(1, -1);
                    break;
                default:
                    break;
            }
        }

        private void changePace(int by) {
            pace = Math.max(0, Math.min(9, pace + by));
        }

        private void leanFurther(int by, int fromUpright) {
            if (lean == 0) {
                lean = fromUpright;
            } else {
                lean += lean > 0 ? by : 0 - by;
            }
        }
    }

    /** A LANE: its law, GROUNDS and TAPS, the hoop on it, and MOMENT. One without YARDS is not there. */
    private static final class Lane {
        final int[] grounds = new int[YARDS];
        final int[] kinds = new int[TAPS];
        final int[] forces = new int[TAPS];
        final Hoop hoop = new Hoop();
        int yards = 0;
        int taps = 0;
        int holds = 0;
        int drag = 0;
        int moment = 0;

        boolean isThere() {
            return yards > 0;
        }

        void be(Lane other) {
            System.arraycopy(other.grounds, 0, grounds, 0, YARDS);
            System.arraycopy(other.kinds, 0, kinds, 0, TAPS);
            System.arraycopy(other.forces, 0, forces, 0, TAPS);
            hoop.be(other.hoop);
            yards = other.yards;
            taps = other.taps;
            holds = other.holds;
            drag = other.drag;
            moment = other.moment;
        }

        /** NO_TAP, where there is no such TAP. */
        int kindAt(int tap) {
            return isOut(tap, 0, taps - 1) ? NO_TAP : kinds[tap];
        }

        int forceAt(int tap) {
            return isOut(tap, 0, taps - 1) ? 0 : forces[tap];
        }
    }

    /** The ACTS that can be undone: a ring of what was ahead of each. */
    private static final class Acts {
        private final Hoop[] hoops = new Hoop[ACTS];
        private final int[] moments = new int[ACTS];
        private final int[] yards = new int[ACTS];
        private final int[] grounds = new int[ACTS];
        private int next = 0;
        int count = 0;

        Acts() {
            for (int k = 0; k < ACTS; k++) {
                hoops[k] = new Hoop();
            }
        }

        void clear() {
            count = 0;
        }

        /** An ACT begins, which changes no GROUND but that of this YARD, if that. */
        void keep(Lane lane, int yard) {
            hoops[next].be(lane.hoop);
            moments[next] = lane.moment;
            yards[next] = yard;
            grounds[next] = lane.grounds[yard];
            next = (next + 1) % ACTS;
            count = Math.min(count + 1, ACTS);
        }

        void takeBack(Lane lane) {
            next = (next + ACTS - 1) % ACTS;
            count--;
            lane.hoop.be(hoops[next]);
            lane.moment = moments[next];
            lane.grounds[yards[next]] = grounds[next];
        }
    }

    /**
     * All ways on by some TAPS. Each MOMENT leads to a YARD further on, so that one pass over the
     * standings, by YARDS, finds the least cost of each.
     */
    private static final class Paths {
        static final int FAR = 1000000;
        private static final int LEANS = 11, STANDINGS = 9 * LEANS;
        /** A cost is told with what is done first (0: no TAP, else 1 more than the TAP), as the lesser part. */
        private static final int UNIT = 8;

        private final int[] least = new int[YARDS * STANDINGS];
        private final Hoop trial = new Hoop();
        private int start = 0;
        private int home = FAR * UNIT;
        /** YARDS (bits) at which it goes DOWN on some way. */
        int falls = 0;

        /** The least cost by which it is HOME; FAR: by none. */
        int cost() {
            return home / UNIT;
        }

        /** What is done first by the least cost: a TAP; NONE: no TAP. */
        int first() {
            return home % UNIT == 0 ? NONE : home % UNIT - 1;
        }

        /** Goes all ways from a hoop on that cost less than a bound. */
        void walk(Lane lane, Hoop from, int ofTap, int ofMoment, int below) {
            home = from.end == HOME ? 0 : FAR * UNIT;
            falls = 0;
            if (from.end != ROLLING) {
                return;
            }
            Arrays.fill(least, FAR * UNIT);
            start = placeOf(from);
            reach(start, 0);
            for (int place = Math.max(0, start); place < lane.yards * STANDINGS; place++) {
                if (least[place] < below * UNIT) {
                    spread(lane, place, ofTap, ofMoment);
                }
            }
        }

        private void spread(Lane lane, int place, int ofTap, int ofMoment) {
            for (int tap = -1; tap < lane.taps; tap++) {
                trial.stand(place / STANDINGS, place % STANDINGS / LEANS + 1, place % LEANS - 5);
                trial.pass(lane, lane.kindAt(tap), lane.forceAt(tap));
                int cost = least[place] + (ofMoment + (tap < 0 ? 0 : ofTap)) * UNIT;
                if (place == start) {
                    cost += tap + 1;
                }
                if (trial.end == HOME) {
                    home = Math.min(home, cost);
                } else if (trial.end == DOWN) {
                    falls |= 1 << trial.yard;
                } else {
                    reach(placeOf(trial), cost);
                }
            }
        }

        private void reach(int place, int cost) {
            if (!isOut(place, 0, least.length - 1)) {
                least[place] = Math.min(least[place], cost);
            }
        }

        private static int placeOf(Hoop hoop) {
            return hoop.yard * STANDINGS + (hoop.pace - 1) * LEANS + hoop.lean + 5;
        }
    }

    /** The ASKS of a TAP. Each BODY leaves its number as it begins; what a KIND has not, the nearest one gives. */
    private static final class Asks {
        final int[] trace = new int[16];
        int bodies = 0;
        private int kind = NO_TAP;
        private int number = 0;
        private int force = 0;
        private int pace = 0;

        void begin(Lane lane, int one) {
            bodies = 0;
            kind = lane.kindAt(one);
            number = one;
            force = lane.forceAt(one);
            pace = lane.hoop.pace;
        }

        int size() {
            switch (kind) {
                case RIGHTING:
                    leave(12);
                    return 0 - drivingSize();
                case BRAKING:
                case RUTTED:
                    return brakedSize();
                default:
                    return drivingSize();
            }
        }

        int mark() {
            return isOfKind(kind, BRAKING) ? brakingMark() : drivenMark();
        }

        /** MARK, asked of a DRIVING one of whatever KIND. */
        private int drivenMark() {
            switch (kind) {
                case RIGHTING:
                    leave(24);
                    return 2 * drivingMark();
                case HOPPING:
                    leave(22);
                    return drivingMark() - 1000;
                default:
                    return drivingMark();
            }
        }

        /** SIZE, asked of a BRAKING one of whatever KIND. */
        private int brakedSize() {
            if (kind == RUTTED) {
                leave(14);
                return 2 * brakingSize();
            }
            return brakingSize();
        }

        private int lentSize() {
            leave(10);
            return force;
        }

        private int drivingSize() {
            leave(11);
            return lentSize() + drivenMark();
        }

        private int brakingSize() {
            leave(13);
            return lentSize() - 100;
        }

        private int lentMark() {
            leave(20);
            return number;
        }

        private int drivingMark() {
            leave(21);
            return lentMark() + pace;
        }

        private int brakingMark() {
            leave(23);
            return lentMark() - brakedSize();
        }

        private void leave(int body) {
            if (bodies < trace.length) {
                trace[bodies] = body;
                bodies++;
            }
        }
    }
}
