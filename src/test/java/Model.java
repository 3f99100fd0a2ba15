import java.math.BigInteger;
import java.util.ArrayDeque;
import java.util.ArrayList;
import java.util.Arrays;
import java.util.HashMap;
import java.util.List;
import java.util.Map;

/**
 * The document anew, by other means than the program (records, maps, recursion, great numbers): what FuzzTest
 * compares it with. Calls bear the names of the face.
 */
final class Model {
    static final int NONE = -1000000, BAD = -1000001, STATE = -1000002, FULL = -1000003;

    record Hoop(int yard, int pace, int lean, int end) { }

    record Tap(int kind, int force) { }

    record Lane(List<Integer> grounds, List<Tap> taps, int holds, int drag, Hoop hoop, int moment) {
        Lane with(Hoop other) {
            return new Lane(grounds, taps, holds, drag, other, moment);
        }

        Lane with(int yard, int ground) {
            List<Integer> others = new ArrayList<>(grounds);
            others.set(yard, ground);
            return new Lane(List.copyOf(others), taps, holds, drag, hoop, moment);
        }

        Lane at(int other) {
            return new Lane(grounds, taps, holds, drag, hoop, other);
        }
    }

    record Row(int lane, List<Integer> items) { }

    /** How many TAPS or MOMENTS, and which is first (-1: none). */
    record Way(int cost, int first) { }

    private final Row[] rows = new Row[8];
    private final Lane[] images = new Lane[2];
    private final ArrayDeque<Lane> acts = new ArrayDeque<>();
    private String tape = "";
    private Lane lane = null;
    private int fault = 0;
    private int status = 0;
    private List<Integer> trace = new ArrayList<>();

    // ---- one MOMENT

    private static int away(int lean, int by, int ofNone) {
        return lean == 0 ? ofNone : lean + by * Integer.signum(lean);
    }

    private static int held(int pace) {
        return pace < 0 ? 0 : pace > 9 ? 9 : pace;
    }

    static Hoop after(Lane on, Hoop h, Tap tap) {
        if (h.end != 0) {
            return h;
        }
        int pace = h.pace;
        int lean = h.lean;
        boolean hops = false;
        if (tap != null) {
            int f = tap.force;
            pace = held(pace + new int[] {0, f, f / 2, f, -f, -f}[tap.kind]);
            if (tap.kind == 2) {
                lean = Integer.signum(lean) * Math.max(0, Math.abs(lean) - f);
            }
            if (tap.kind == 5) {
                lean = 0;
            }
            hops = tap.kind == 3;
        }
        int yard = h.yard + 1 + pace / 3;
        if (yard >= on.grounds.size()) {
            return new Hoop(on.grounds.size(), pace, lean, 2);
        }
        String ground = hops ? "f" : "" + "fdursw".charAt(on.grounds.get(yard));
        if (ground.equals("d")) {
            pace = held(pace + 2);
        } else if (ground.equals("u")) {
            pace = held(pace - 1);
        } else if (ground.equals("r")) {
            lean = 0;
        } else if (ground.equals("s")) {
            lean = away(lean, 2, 2);
        } else if (ground.equals("w")) {
            pace = held(pace - 1);
            lean = away(lean, 1, -1);
        }
        pace = held(pace - on.drag);
        if (pace <= 3) {
            lean = away(lean, 1, yard % 2 == 0 ? 1 : -1);
        }
        boolean down = Math.abs(lean) > on.holds || pace == 0;
        return new Hoop(yard, pace, lean, down ? 1 : 0);
    }

    private static Tap tapAt(Lane on, long tap) {
        return tap >= 0 && tap < on.taps.size() ? on.taps.get((int) tap) : null;
    }

    // ---- rows

    private int found(int finding) {
        status = finding;
        return -1000010 - finding;
    }

    private int done(int answer) {
        status = 0;
        return answer;
    }

    private static boolean in(long v, long least, long most) {
        return v >= least && v <= most;
    }

    private int places(int row, int i, int n) {
        if (rows[row] == null) {
            return 1;
        }
        return i < 0 || n < 0 || (long) i + n > rows[row].items.size() ? 2 : 0;
    }

    int row(int row, int of, int n) {
        if (!in(row, 0, 7) || !in(of, 0, 2) || n > 40) {
            return BAD;
        }
        if (n < 0) {
            return found(4);
        }
        rows[row] = new Row(of, new ArrayList<>(java.util.Collections.nCopies(n, 0)));
        return done(n);
    }

    int set(int row, int i, int v) {
        if (!in(row, 0, 7)) {
            return BAD;
        }
        if (places(row, i, 1) != 0) {
            return found(places(row, i, 1));
        }
        int bits = 8 << rows[row].lane;
        int cut = v << 32 - bits >> 32 - bits;
        rows[row].items.set(i, cut);
        return done(cut);
    }

    int copy(int a, int i, int b, int j, int n) {
        if (!in(a, 0, 7) || !in(b, 0, 7)) {
            return BAD;
        }
        if (rows[a] == null || rows[b] == null) {
            return found(1);
        }
        if (rows[a].lane != rows[b].lane) {
            return found(5);
        }
        if (places(a, i, n) != 0 || places(b, j, n) != 0) {
            return found(2);
        }
        List<Integer> from = List.copyOf(rows[a].items.subList(i, i + n));
        for (int k = 0; k < n; k++) {
            rows[b].items.set(j + k, from.get(k));
        }
        return done(n);
    }

    int drop(int row) {
        if (!in(row, 0, 7)) {
            return BAD;
        }
        if (rows[row] == null) {
            return found(1);
        }
        int items = rows[row].items.size();
        rows[row] = null;
        return done(items);
    }

    // ---- what is told

    int feed(int letter) {
        if (!in(letter, 0, 255)) {
            return BAD;
        }
        if (tape.length() == 100) {
            return FULL;
        }
        tape += (char) letter;
        return tape.length();
    }

    /** TOKENS: where each begins, and its text; "" is the end. */
    private record Token(int at, String text) {
        boolean isNumber() {
            return text.matches("[0-9]{1,2}");
        }
    }

    private static List<Token> tokens(String text) {
        List<Token> all = new ArrayList<>();
        java.util.regex.Matcher m = java.util.regex.Pattern.compile("[0-9]+|[^0-9]", java.util.regex.Pattern.DOTALL)
            .matcher(text);
        while (m.find()) {
            all.add(new Token(m.start(), m.group()));
        }
        all.add(new Token(text.length(), ""));
        return all;
    }

    int lane() {
        List<Token> all = tokens(tape);
        tape = "";
        int[] law = new int[4];
        List<Integer> grounds = new ArrayList<>();
        List<Tap> taps = new ArrayList<>();
        // What may stand: a state of the reader is a string, as a pattern of what comes next.
        String state = "h";
        int number = 0;
        for (Token token : all) {
            String t = token.text;
            int wrong = 0;
            if (state.equals("h")) {
                wrong = t.equals("h") ? 0 : 1;
                state = "law";
            } else if (state.equals("law")) {
                int[][] as = {{1, 9}, {0, 4}, {1, 5}, {0, 3}};
                wrong = !token.isNumber() ? 1 : in(Integer.parseInt(t), as[number][0], as[number][1]) ? 0 : 2;
                law[number] = wrong == 0 ? Integer.parseInt(t) : 0;
                number++;
                state = number < 4 ? "," : "law;";
            } else if (state.equals(",")) {
                wrong = t.equals(",") ? 0 : 1;
                state = "law";
            } else if (state.equals("law;")) {
                wrong = t.equals(";") ? 0 : 1;
                state = "g";
            } else if (state.equals("g")) {
                wrong = t.equals("g") ? 0 : 1;
                state = "grounds";
            } else if (state.equals("grounds")) {
                if (t.equals(";") && !grounds.isEmpty()) {
                    state = "tap";
                } else if (!t.isEmpty() && "fdursw".contains(t) && grounds.size() < 24) {
                    grounds.add("fdursw".indexOf(t));
                } else {
                    wrong = 1;
                }
            } else if (state.equals("tap")) {
                if (t.isEmpty()) {
                    break;
                }
                int sort = t.length() == 1 ? "viobt".indexOf(t) : -1;
                wrong = sort < 0 ? 1 : taps.size() == 5 ? 3 : 0;
                number = sort + 1;
                state = "force";
            } else if (state.equals("force")) {
                wrong = !token.isNumber() ? 1 : in(Integer.parseInt(t), 1, 5) ? 0 : 2;
                if (wrong == 0) {
                    taps.add(new Tap(number, Integer.parseInt(t)));
                }
                state = "tap;";
            } else {
                wrong = t.equals(";") ? 0 : 1;
                state = "tap";
            }
            if (wrong != 0) {
                fault = wrong;
                return -1000100 - token.at;
            }
        }
        lane = new Lane(List.copyOf(grounds), List.copyOf(taps), law[2], law[3], new Hoop(0, law[0], law[1] - 2, 0), 0);
        acts.clear();
        return taps.size();
    }

    int fault() {
        return fault;
    }

    int undo() {
        if (acts.isEmpty()) {
            return STATE;
        }
        lane = acts.removeLast();
        return acts.size();
    }

    // ---- what is done

    private void act(Lane next) {
        acts.addLast(lane);
        if (acts.size() > 24) {
            acts.removeFirst();
        }
        lane = next;
    }

    int moment(int tap) {
        if (lane == null) {
            return STATE;
        }
        if (!in(tap, -1, lane.taps.size() - 1)) {
            return BAD;
        }
        if (lane.hoop.end != 0) {
            return STATE;
        }
        if (lane.moment == 999) {
            return FULL;
        }
        act(lane.with(after(lane, lane.hoop, tapAt(lane, tap))).at(lane.moment + 1));
        return lane.hoop.yard;
    }

    int setUp(int yard, int pace, int lean) {
        if (lane == null) {
            return STATE;
        }
        if (!in(yard, 0, lane.grounds.size() - 1) || !in(pace, 1, 9) || !in(lean, -lane.holds, lane.holds)) {
            return BAD;
        }
        int was = lane.hoop.yard;
        act(lane.with(new Hoop(yard, pace, lean, 0)));
        return was;
    }

    int lay(int yard, int ground) {
        if (lane == null) {
            return STATE;
        }
        if (!in(yard, 0, lane.grounds.size() - 1) || !in(ground, 0, 5)) {
            return BAD;
        }
        int was = lane.grounds.get(yard);
        act(lane.with(yard, ground));
        return was;
    }

    private static int told(Hoop h, int what) {
        return new int[] {h.yard, h.pace, h.lean, h.end}[what];
    }

    int hoop(int what) {
        if (lane == null) {
            return STATE;
        }
        return !in(what, 0, 4) ? BAD : what == 4 ? lane.moment : told(lane.hoop, what);
    }

    int ground(int yard) {
        return lane == null || !in(yard, 0, lane.grounds.size() - 1) ? BAD : lane.grounds.get(yard);
    }

    private boolean isTap(int tap) {
        return lane != null && in(tap, 0, lane.taps.size() - 1);
    }

    int force(int tap) {
        return isTap(tap) ? lane.taps.get(tap).force : BAD;
    }

    // ---- foretold

    int ahead(int n, int what) {
        if (lane == null) {
            return STATE;
        }
        if (!in(n, 0, 40) || !in(what, 0, 3)) {
            return BAD;
        }
        Hoop h = lane.hoop;
        for (int k = 0; k < n; k++) {
            h = after(lane, h, null);
        }
        return told(h, what);
    }

    /** The way of least cost to HOME, of several the one that begins first; null: there is none. */
    static Way best(Lane on, Hoop h, boolean byTaps, Map<Hoop, Way> known) {
        if (h.end == 2) {
            return new Way(0, -1);
        }
        if (h.end == 1) {
            return null;
        }
        if (known.containsKey(h)) {
            return known.get(h);
        }
        Way best = null;
        for (int tap = -1; tap < on.taps.size(); tap++) {
            Way rest = best(on, after(on, h, tapAt(on, tap)), byTaps, known);
            if (rest != null) {
                int cost = rest.cost + (byTaps && tap < 0 ? 0 : 1);
                if (best == null || cost < best.cost) {
                    best = new Way(cost, tap);
                }
            }
        }
        known.put(h, best);
        return best;
    }

    private int least(int what, boolean byTaps) {
        if (lane == null) {
            return STATE;
        }
        if (!in(what, 0, 1)) {
            return BAD;
        }
        Way way = best(lane, lane.hoop, byTaps, new HashMap<>());
        if (way == null) {
            return NONE;
        }
        return what == 0 ? way.cost : way.first < 0 ? NONE : way.first;
    }

    int fewest(int what) {
        return least(what, true);
    }

    int soonest(int what) {
        return least(what, false);
    }

    private static boolean can(Lane on, Hoop h) {
        return best(on, h, true, new HashMap<>()) != null;
    }

    int heldFrom() {
        if (lane == null) {
            return STATE;
        }
        for (int pace = 1; pace <= 9 && lane.hoop.end == 0; pace++) {
            if (can(lane, new Hoop(lane.hoop.yard, pace, lane.hoop.lean, 0))) {
                return pace;
            }
        }
        return NONE;
    }

    int righted() {
        if (lane == null) {
            return STATE;
        }
        if (lane.taps.isEmpty() || lane.hoop.end != 0) {
            return NONE;
        }
        int many = 0;
        for (int lean = 0; lean <= lane.holds; lean++) {
            many += can(lane, new Hoop(lane.hoop.yard, lane.hoop.pace, lean, 0)) ? 1 : 0;
        }
        return many;
    }

    private boolean areTaps(int row, int i, int n) {
        for (int item : rows[row].items.subList(i, i + n)) {
            if (item != -1 && !isTap(item)) {
                return false;
            }
        }
        return true;
    }

    int plan(int row, int i, int n, int what) {
        if (lane == null) {
            return STATE;
        }
        if (!in(row, 0, 7) || !in(n, 0, 24) || !in(what, 0, 1)) {
            return BAD;
        }
        if (places(row, i, n) != 0) {
            return found(places(row, i, n));
        }
        if (!areTaps(row, i, n)) {
            return BAD;
        }
        Hoop h = lane.hoop;
        int many = 0;
        for (int item : rows[row].items.subList(i, i + n)) {
            if (h.end == 0) {
                many++;
            }
            h = after(lane, h, tapAt(lane, item));
        }
        return done(what == 0 ? many : h.end);
    }

    private boolean comes(Hoop from, Tap tap, List<Integer> yards) {
        List<Integer> come = new ArrayList<>();
        Hoop h = after(lane, from, tap);
        for (int k = 0; k < yards.size(); k++) {
            come.add(h.yard);
            h = after(lane, h, null);
        }
        return come.equals(yards);
    }

    int seen(int row, int i, int n, int what) {
        if (lane == null) {
            return STATE;
        }
        if (!in(row, 0, 7) || !in(n, 1, 8) || !in(what, 0, 1)) {
            return BAD;
        }
        if (lane.hoop.end != 0) {
            return STATE;
        }
        if (places(row, i, n) != 0) {
            return found(places(row, i, n));
        }
        List<Integer> yards = rows[row].items.subList(i, i + n);
        int bits = 0;
        for (int v = what == 0 ? 1 : -lane.holds; v <= (what == 0 ? 9 : lane.holds); v++) {
            Hoop h = lane.hoop;
            h = what == 0 ? new Hoop(h.yard, v, h.lean, 0) : new Hoop(h.yard, h.pace, v, 0);
            if (comes(h, null, yards)) {
                bits |= 1 << (what == 0 ? v : v + 5);
            }
        }
        return done(bits);
    }

    int who(int tap, int row, int i, int n) {
        if (!isTap(tap) || !in(row, 0, 7) || !in(n, 1, 8)) {
            return BAD;
        }
        if (lane.hoop.end != 0) {
            return STATE;
        }
        if (places(row, i, n) != 0) {
            return found(places(row, i, n));
        }
        int bits = 0;
        for (int kind = 1; kind <= 5; kind++) {
            if (comes(lane.hoop, new Tap(kind, lane.taps.get(tap).force), rows[row].items.subList(i, i + n))) {
                bits |= 1 << kind;
            }
        }
        return done(bits);
    }

    private int fallsFrom(Hoop h, Map<Hoop, Integer> known) {
        if (h.end != 0) {
            return h.end == 1 ? 1 << h.yard : 0;
        }
        if (!known.containsKey(h)) {
            int bits = 0;
            for (int tap = -1; tap < lane.taps.size(); tap++) {
                bits |= fallsFrom(after(lane, h, tapAt(lane, tap)), known);
            }
            known.put(h, bits);
        }
        return known.get(h);
    }

    int falls() {
        if (lane == null) {
            return STATE;
        }
        return lane.hoop.end != 0 ? 0 : fallsFrom(lane.hoop, new HashMap<>());
    }

    int mend(int what) {
        if (lane == null) {
            return STATE;
        }
        if (!in(what, 0, 1)) {
            return BAD;
        }
        int fewest = NONE;
        int where = NONE;
        for (int yard = 0; yard < lane.grounds.size(); yard++) {
            Way way = best(lane.with(yard, 0), lane.hoop, true, new HashMap<>());
            if (way != null && (where == NONE || way.cost < fewest)) {
                fewest = way.cost;
                where = yard;
            }
        }
        return what == 0 ? where : fewest;
    }

    /** In 10 to the TAPS that are left, in how many cases it is HOME. */
    private BigInteger cases(Hoop h, List<Integer> items, int p) {
        if (items.isEmpty()) {
            return h.end == 2 ? BigInteger.ONE : BigInteger.ZERO;
        }
        List<Integer> rest = items.subList(1, items.size());
        BigInteger missed = cases(after(lane, h, null), rest, p);
        if (items.get(0) == -1) {
            return missed;
        }
        BigInteger hit = cases(after(lane, h, tapAt(lane, items.get(0))), rest, p);
        return missed.multiply(BigInteger.valueOf(p)).add(hit.multiply(BigInteger.valueOf(10 - p)));
    }

    long miss(int row, int i, int n, int p, int what) {
        if (lane == null) {
            return STATE;
        }
        if (!in(row, 0, 7) || !in(n, 1, 24) || !in(p, 0, 10) || !in(what, 0, 1)) {
            return BAD;
        }
        if (places(row, i, n) != 0) {
            return found(places(row, i, n));
        }
        List<Integer> items = rows[row].items.subList(i, i + n);
        int taps = (int) items.stream().filter(item -> item != -1).count();
        if (!areTaps(row, i, n) || taps > 8) {
            return BAD;
        }
        BigInteger above = cases(lane.hoop, items, p);
        BigInteger below = BigInteger.TEN.pow(taps);
        BigInteger common = above.gcd(below);
        return done(0) + (what == 0 ? above : below).divide(common).longValueExact();
    }

    int drawn(int n, int seed, int what) {
        if (lane == null) {
            return STATE;
        }
        if (!in(n, 0, 40) || !in(seed, 1, 999999) || !in(what, 0, 1)) {
            return BAD;
        }
        BigInteger x = BigInteger.valueOf(seed);
        Hoop h = lane.hoop;
        int many = 0;
        for (int k = 0; k < n && h.end == 0; k++) {
            x = x.multiply(BigInteger.valueOf(16807)).mod(BigInteger.valueOf(2147483647));
            h = after(lane, h, tapAt(lane, x.mod(BigInteger.valueOf(8)).longValue()));
            many++;
        }
        return what == 0 ? h.yard : many;
    }

    int image(int k) {
        if (!in(k, 0, 1)) {
            return BAD;
        }
        if (lane == null) {
            return STATE;
        }
        images[k] = lane;
        return 1;
    }

    int restore(int k) {
        if (!in(k, 0, 1)) {
            return BAD;
        }
        if (images[k] == null) {
            return STATE;
        }
        lane = images[k];
        acts.clear();
        return 1;
    }

    // ---- asked: the KINDS as classes, what they have as overriding

    private class One {
        final int number;

        One(int number) {
            this.number = number;
        }

        int force() {
            return lane.taps.get(number).force;
        }

        int size() {
            trace.add(10);
            return force();
        }

        int mark() {
            trace.add(20);
            return number;
        }
    }

    private class Driving extends One {
        Driving(int number) {
            super(number);
        }

        @Override
        int size() {
            trace.add(11);
            int lent = super.size();
            return lent + mark();
        }

        @Override
        int mark() {
            trace.add(21);
            return super.mark() + lane.hoop.pace;
        }
    }

    private class Righting extends Driving {
        Righting(int number) {
            super(number);
        }

        @Override
        int size() {
            trace.add(12);
            return -super.size();
        }

        @Override
        int mark() {
            trace.add(24);
            return 2 * super.mark();
        }
    }

    private class Hopping extends Driving {
        Hopping(int number) {
            super(number);
        }

        @Override
        int mark() {
            trace.add(22);
            return super.mark() - 1000;
        }
    }

    private class Braking extends One {
        Braking(int number) {
            super(number);
        }

        @Override
        int size() {
            trace.add(13);
            return super.size() - 100;
        }

        @Override
        int mark() {
            trace.add(23);
            int lent = super.mark();
            return lent - size();
        }
    }

    private class Rutted extends Braking {
        Rutted(int number) {
            super(number);
        }

        @Override
        int size() {
            trace.add(14);
            return 2 * super.size();
        }
    }

    private One one(int number) {
        switch (lane.taps.get(number).kind) {
            case 1: return new Driving(number);
            case 2: return new Righting(number);
            case 3: return new Hopping(number);
            case 4: return new Braking(number);
            default: return new Rutted(number);
        }
    }

    int kind(int one) {
        return isTap(one) ? lane.taps.get(one).kind : BAD;
    }

    int as(int one, int kind) {
        if (!isTap(one) || !in(kind, 0, 5)) {
            return BAD;
        }
        List<Class<?>> kinds = Arrays.asList(One.class, Driving.class, Righting.class, Hopping.class, Braking.class,
            Rutted.class);
        return kinds.get(kind).isInstance(one(one)) ? done(one) : found(3);
    }

    int ask(int one, int what) {
        if (!isTap(one) || !in(what, 0, 1)) {
            return BAD;
        }
        trace = new ArrayList<>();
        return what == 0 ? one(one).size() : one(one).mark();
    }

    int trace(int i) {
        return in(i, 0, Math.min(16, trace.size()) - 1) ? trace.get(i) : NONE;
    }

    int count(int what) {
        switch (what) {
            case 0: return (int) Arrays.stream(rows).filter(row -> row != null).count();
            case 1: return lane == null ? 0 : lane.grounds.size();
            case 2: return lane == null ? 0 : lane.taps.size();
            case 3: return lane == null ? 0 : lane.holds;
            case 4: return lane == null ? 0 : lane.drag;
            case 5: return lane == null ? 0 : lane.moment;
            case 6: return acts.size();
            case 7: return tape.length();
            default: return BAD;
        }
    }

    int status() {
        return status;
    }
}
