/** Each sentence on a boundary case: the terms, ROWS, promises 1 to 5 and 35. */
public final class BoundsRowsTest {
    public static void main(String[] args) {
        divided();
        fractions();
        noFraction();
        firstThatFits();
        badNumber();
        stateAsTold();
        fullAsTold();
        findingsLast();
        firstInTime();
        nullFinding();
        placeFinding();
        kindFinding();
        sizeFinding();
        storeFinding();
        changesNothing();
        rowNumbers();
        missingAtFirst();
        lanes();
        items();
        zerosAtFirst();
        newObject();
        row();
        rowRefused();
        set();
        setRefused();
        copy();
        copyRefused();
        drop();
        dropRefused();
        status();
        statusNone();
        Due.end();
    }

    // ---- Terms

    private static void divided() {
        Due.says("Terms", "All that is divided is cut towards 0");
        int[] yards = {1, 1, 2, 2, 2, 3, 3, 3, 4};
        for (int pace = 1; pace <= 9; pace++) {
            Due.is("a third of PACE " + pace, yards[pace - 1], Due.told("h" + pace + ",2,5,0;gfffffff;").moment(-1));
        }
        int[] paces = {4, 5, 5, 6, 6};
        for (int force = 1; force <= 5; force++) {
            HoopLane x = Due.told("h4,2,5,0;gfffffff;i" + force + ";");
            x.moment(0);
            Due.is("half of FORCE " + force, paces[force - 1], x.hoop(1));
        }
    }

    /** It is HOME if one of so many TAPS does not miss. */
    private static void fraction(int taps, int p, long above, long below) {
        HoopLane x = Due.told("h1,2,1,0;gfff;v3;");
        Due.fill(x, 0, 0, taps == 1 ? new int[] {0, -1} : new int[] {0, 0, -1});
        Due.is("above, " + taps + " TAPS, p " + p, above, x.miss(0, 0, taps + 1, p, 0));
        Due.is("below, " + taps + " TAPS, p " + p, below, x.miss(0, 0, taps + 1, p, 1));
    }

    private static void fractions() {
        Due.says("Terms", "but fractions, told as two numbers in lowest terms");
        fraction(1, 3, 7, 10);
        fraction(1, 5, 1, 2);
        fraction(1, 6, 2, 5);
        fraction(2, 5, 3, 4);
        fraction(2, 2, 24, 25);
        fraction(1, 0, 1, 1);
    }

    private static void noFraction() {
        Due.says("Terms", "(0 is 0 by 1)");
        fraction(1, 10, 0, 1);
        fraction(2, 10, 0, 1);
    }

    private static void firstThatFits() {
        Due.says("Terms", "Refusals are answers, the first of these that fits, but as told:");
        Given.refused("BAD ahead of STATE, image(2)", Due.BAD, Given::noLane, x -> x.image(2));
        Given.refused("BAD ahead of STATE, moment(5) DOWN", Due.BAD, Given::down, x -> x.moment(5));
        Given.refused("BAD ahead of STATE, seen(0, 0, 9, 0) HOME", Due.BAD, Given::home, x -> x.seen(0, 0, 9, 0));
        Given.refused("but as told, moment(5), no LANE", Due.STATE, Given::noLane, x -> x.moment(5));
        HoopLane x = fullTape();
        Due.is("BAD ahead of FULL, feed(256)", Due.BAD, x.feed(256));
    }

    private static HoopLane fullTape() {
        HoopLane x = new HoopLane();
        Due.feed(x, "h".repeat(100));
        return x;
    }

    private static void badNumber() {
        Due.says("Terms", "BAD (a number is not as told; there is no such thing)");
        Given.refused("not as told, hoop(5)", Due.BAD, Given::rolling, x -> x.hoop(5));
        Given.refused("no such thing, ground(13)", Due.BAD, Given::rolling, x -> x.ground(13));
        Given.refused("no such thing, force(5)", Due.BAD, Given::rolling, x -> x.force(5));
        Given.refused("no such thing yet, force(0)", Due.BAD, Given::noLane, x -> x.force(0));
    }

    private static void stateAsTold() {
        Due.says("Terms", "STATE (as told)");
        Given.refused("moment(0) DOWN", Due.STATE, Given::down, x -> x.moment(0));
        Given.refused("moment(0) HOME", Due.STATE, Given::home, x -> x.moment(0));
        // Where it is not told of a call that it be not DOWN, not HOME, nothing is refused for that.
        Due.is("lay(4, 0) DOWN", 0, Given.down().lay(4, 0));
        Due.is("setUp(4, 1, 0) HOME", 13, Given.home().setUp(4, 1, 0));
        Due.is("falls() HOME", 0, Given.home().falls());
    }

    private static void fullAsTold() {
        Due.says("Terms", "FULL (as told)");
        Due.is("the hundredth byte", 100, fullTape().count(7));
        Due.is("one more", Due.FULL, fullTape().feed('h'));
        Due.is("a thing of another kind is not refused for that", 2, fullTape().row(0, 0, 2));
    }

    private static void findingsLast() {
        Due.says("Terms", "then FINDINGS");
        Given.refused("BAD ahead of NULL", Due.BAD, Given::rolling, x -> x.seen(7, 0, 9, 0));
        Given.refused("BAD ahead of SIZE", Due.BAD, Given::rolling, x -> x.row(8, 0, -1));
        Given.refused("STATE ahead of NULL", Due.STATE, Given::down, x -> x.seen(7, 0, 1, 0));
        Given.refused("STATE ahead of PLACE", Due.STATE, Given::home, x -> x.seen(0, 4, 1, 0));
        Given.refused("NULL, if nothing else", Due.NULL, Given::rolling, x -> x.seen(7, 0, 1, 0));
    }

    private static void firstInTime() {
        Due.says("Terms", "of several the first in time:");
        Given.refused("a missing, PLACE of b", Due.NULL, Given::rolling, x -> x.copy(7, 0, 0, 9, 1));
        Given.refused("b missing, PLACE of a", Due.NULL, Given::rolling, x -> x.copy(0, 9, 7, 0, 1));
        Given.refused("two LANES, PLACE of a", Due.STORE, Given::rolling, x -> x.copy(0, 9, 1, 0, 1));
        Given.refused("missing, i below 0", Due.NULL, Given::rolling, x -> x.set(7, -1, 0));
        Given.refused("missing, n beyond", Due.NULL, Given::rolling, x -> x.plan(7, 0, 24, 0));
    }

    private static void nullFinding() {
        Due.says("Terms", "-1000010 less 1 NULL (a ROW that is missing)");
        Due.is("set(7, 0, 0)", -1000011, Given.rolling().set(7, 0, 0));
        Due.is("set(0, 0, 0)", 0, Given.rolling().set(0, 0, 0));
    }

    private static void placeFinding() {
        Due.says("Terms", "2 PLACE (no such place of a ROW)");
        Due.is("set(0, 4, 0)", -1000012, Given.rolling().set(0, 4, 0));
        Due.is("set(0, 3, 0)", 0, Given.rolling().set(0, 3, 0));
    }

    private static void kindFinding() {
        Due.says("Terms", "3 KIND (a TAP that is not that)");
        Due.is("as(0, 2)", -1000013, Given.rolling().as(0, 2));
        Due.is("as(0, 1)", 0, Given.rolling().as(0, 1));
    }

    private static void sizeFinding() {
        Due.says("Terms", "4 SIZE (fewer than none)");
        Due.is("row(0, 0, -1)", -1000014, Given.rolling().row(0, 0, -1));
        Due.is("row(0, 0, 0)", 0, Given.rolling().row(0, 0, 0));
    }

    private static void storeFinding() {
        Due.says("Terms", "5 STORE (ROWS of two LANES)");
        Due.is("bytes to shorts", -1000015, Given.rolling().copy(0, 0, 1, 0, 1));
        Due.is("ints to bytes", -1000015, Given.rolling().copy(2, 0, 0, 0, 1));
        HoopLane x = Given.rolling();
        x.row(4, 0, 1);
        Due.is("bytes to bytes", 1, x.copy(0, 0, 4, 0, 1));
    }

    private static void changesNothing() {
        Due.says("Terms", "What is refused, or found, changes nothing but status().");
        Given.refused("BAD", Due.BAD, Given::rolling, x -> x.lay(3, 6));
        Given.refused("BAD", Due.BAD, Given::rolling, x -> x.setUp(13, 5, 0));
        Given.refused("STATE", Due.STATE, Given::home, x -> x.moment(0));
        Given.refused("STATE", Due.STATE, Given::rolling, x -> x.restore(1));
        Given.refused("a finding", Due.SIZE, Given::rolling, x -> x.row(0, 2, -1));
        Given.refused("a finding", Due.STORE, Given::rolling, x -> x.copy(0, 0, 2, 0, 2));
        Given.refused("BAD by an ITEM", Due.BAD, BoundsRowsTest::wrongItem, x -> x.plan(4, 0, 2, 0));
        HoopLane x = fullTape();
        x.feed('x');
        Due.is("FULL", 100, x.count(7));
    }

    /** Row 4 tells a TAP 5, that is not there; status() 1. */
    private static HoopLane wrongItem() {
        HoopLane x = Given.rolling();
        Due.fill(x, 4, 0, 0, 5);
        x.set(7, 0, 0);
        return x;
    }

    // ---- ROWS

    private static void rowNumbers() {
        Due.says("1", "ROWS 0 .. 7");
        for (int row = 0; row < 8; row++) {
            HoopLane x = new HoopLane();
            Due.is("row(" + row + ", 1, 2)", 2, x.row(row, 1, 2));
            Due.is("count(0) by row " + row, 1, x.count(0));
            for (int other = 0; other < 8; other++) {
                Due.is("set(" + other + ", 0, 7) by row " + row, other == row ? 7 : Due.NULL, x.set(other, 0, 7));
            }
        }
        HoopLane x = new HoopLane();
        Due.is("row(-1, 1, 2)", Due.BAD, x.row(-1, 1, 2));
        Due.is("row(8, 1, 2)", Due.BAD, x.row(8, 1, 2));
        Due.is("count(0)", 0, x.count(0));
    }

    private static void missingAtFirst() {
        Due.says("1", "are missing (at first)");
        HoopLane x = new HoopLane();
        for (int row = 0; row < 8; row++) {
            Due.is("drop(" + row + ")", Due.NULL, x.drop(row));
        }
        Due.is("count(0)", 0, x.count(0));
    }

    private static void lanes() {
        Due.says("1", "or have a LANE (0 bytes, 1 shorts, 2 ints)");
        HoopLane x = new HoopLane();
        for (int lane = 0; lane <= 2; lane++) {
            Due.is("row(" + lane + ", " + lane + ", 1)", 1, x.row(lane, lane, 1));
        }
        Due.is("bytes to 127", 127, x.set(0, 0, 127));
        Due.is("bytes no further", -128, x.set(0, 0, 128));
        Due.is("bytes from -128", -128, x.set(0, 0, -128));
        Due.is("bytes no further", 127, x.set(0, 0, -129));
        Due.is("shorts to 32767", 32767, x.set(1, 0, 32767));
        Due.is("shorts no further", -32768, x.set(1, 0, 32768));
        Due.is("shorts from -32768", -32768, x.set(1, 0, -32768));
        Due.is("shorts no further", 32767, x.set(1, 0, -32769));
        Due.is("ints to the most", Integer.MAX_VALUE, x.set(2, 0, Integer.MAX_VALUE));
        Due.is("ints from the least", Integer.MIN_VALUE, x.set(2, 0, Integer.MIN_VALUE));
        Due.is("no LANE -1", Due.BAD, x.row(3, -1, 1));
        Due.is("no LANE 3", Due.BAD, x.row(3, 3, 1));
    }

    private static void items() {
        Due.says("1", "and 0 to 40 ITEMS");
        HoopLane x = new HoopLane();
        Due.is("none", 0, x.row(0, 0, 0));
        Due.is("none to set", Due.PLACE, x.set(0, 0, 1));
        Due.is("none dropped", 0, x.drop(0));
        Due.is("40", 40, x.row(0, 2, 40));
        Due.is("the last of 40", 9, x.set(0, 39, 9));
        Due.is("behind the last", Due.PLACE, x.set(0, 40, 9));
        Due.is("41", Due.BAD, x.row(0, 2, 41));
        Due.is("40 dropped", 40, x.drop(0));
        Due.is("fewer than none", Due.SIZE, x.row(0, 2, -1));
    }

    /** That an ITEM is 0 is seen by plan(): TAP 0 is done, by which it is DOWN. */
    private static void zerosAtFirst() {
        Due.says("1", "0 at first.");
        for (int lane = 0; lane <= 2; lane++) {
            HoopLane x = Due.told("h5,2,5,0;gffffffffffff;b5;");
            x.row(0, lane, 40);
            Due.is("the first of LANE " + lane, 1, x.plan(0, 0, 1, 1));
            Due.is("the last of LANE " + lane, 1, x.plan(0, 39, 1, 1));
            x.set(0, 39, -1);
            Due.is("not now", 0, x.plan(0, 39, 1, 1));
            x.row(0, lane, 40);
            Due.is("anew, of LANE " + lane, 1, x.plan(0, 39, 1, 1));
            x.set(0, 0, -1);
            x.drop(0);
            x.row(0, lane, 1);
            Due.is("dropped, and anew", 1, x.plan(0, 0, 1, 1));
        }
    }

    // ---- promises 1 to 5, 35

    private static void newObject() {
        Due.says("Promise 1", "No LANE.");
        HoopLane x = new HoopLane();
        for (int what = 0; what <= 7; what++) {
            Due.is("count(" + what + ")", 0, x.count(what));
        }
        Due.is("hoop(0)", Due.STATE, x.hoop(0));
        Due.is("moment(-1)", Due.STATE, x.moment(-1));
        Due.is("ahead(0, 0)", Due.STATE, x.ahead(0, 0));
        Due.is("ground(0)", Due.BAD, x.ground(0));
        Due.is("kind(0)", Due.BAD, x.kind(0));
        Due.is("fault()", 0, x.fault());
        Due.is("undo()", Due.STATE, x.undo());
        Due.is("restore(0)", Due.STATE, x.restore(0));
        Due.is("restore(1)", Due.STATE, x.restore(1));
        Due.is("trace(0)", Due.NONE, x.trace(0));
        Due.is("status()", 0, x.status());
    }

    private static void row() {
        Due.says("Promise 2", "A ROW of a LANE with n ITEMS, in place of what is there: n.");
        HoopLane x = new HoopLane();
        Due.is("row(5, 0, 3)", 3, x.row(5, 0, 3));
        Due.is("row(5, 1, 40), longer, of another LANE", 40, x.row(5, 1, 40));
        Due.is("a short", 128, x.set(5, 39, 128));
        Due.is("row(5, 0, 1), shorter", 1, x.row(5, 0, 1));
        Due.is("a byte", -128, x.set(5, 0, 128));
        Due.is("no second one", Due.PLACE, x.set(5, 1, 0));
        Due.is("row(5, 2, 0)", 0, x.row(5, 2, 0));
        Due.is("one row in all", 1, x.count(0));
    }

    private static void rowRefused() {
        Due.says("Promise 2", "BAD: ROW, LANE, n above 40; SIZE.");
        Given.refused("row(-1, 0, 1)", Due.BAD, Given::rolling, x -> x.row(-1, 0, 1));
        Given.refused("row(8, 0, 1)", Due.BAD, Given::rolling, x -> x.row(8, 0, 1));
        Given.refused("row(min, 0, 1)", Due.BAD, Given::rolling, x -> x.row(Integer.MIN_VALUE, 0, 1));
        Given.refused("row(0, -1, 1)", Due.BAD, Given::rolling, x -> x.row(0, -1, 1));
        Given.refused("row(0, 3, 1)", Due.BAD, Given::rolling, x -> x.row(0, 3, 1));
        Given.refused("row(0, 0, 41)", Due.BAD, Given::rolling, x -> x.row(0, 0, 41));
        Given.refused("row(0, 0, max)", Due.BAD, Given::rolling, x -> x.row(0, 0, Integer.MAX_VALUE));
        Given.refused("row(0, 0, -1)", Due.SIZE, Given::rolling, x -> x.row(0, 0, -1));
        Given.refused("row(0, 0, min)", Due.SIZE, Given::rolling, x -> x.row(0, 0, Integer.MIN_VALUE));
        Given.refused("row(7, 1, -1), of one that is missing", Due.SIZE, Given::noLane, x -> x.row(7, 1, -1));
        Given.refused("ROW ahead of SIZE", Due.BAD, Given::rolling, x -> x.row(8, 0, -1));
        Given.refused("LANE ahead of SIZE", Due.BAD, Given::rolling, x -> x.row(0, 3, -1));
    }

    private static void set() {
        Due.says("Promise 3", "ITEM i becomes v, its lowest bits, as many as the LANE has: what it is then.");
        HoopLane x = new HoopLane();
        int[][] due = {{-1, 255, 255}, {0, 256, 256}, {1, -255, -255}, {-1, -1, 65535}, {0, 0, 65536},
            {0, -32768, 0x18000}, {-1, -1, Integer.MAX_VALUE}, {0, 0, Integer.MIN_VALUE}, {5, 5, 5}};
        for (int lane = 0; lane <= 2; lane++) {
            x.row(lane, lane, 3);
            for (int[] v : due) {
                Due.is("set(" + lane + ", 2, " + v[2] + ")", v[lane], x.set(lane, 2, v[2]));
            }
        }
        // 257 as a byte is TAP 1, as a short no TAP.
        HoopLane y = Due.told("h5,2,5,0;gffff;v1;v1;");
        Due.fill(y, 0, 0, 257);
        Due.fill(y, 1, 1, 257);
        Due.is("it is kept so", 1, y.plan(0, 0, 1, 0));
        Due.is("it is kept so", Due.BAD, y.plan(1, 0, 1, 0));
    }

    private static void setRefused() {
        Due.says("Promise 3", "BAD: ROW; NULL; PLACE.");
        Given.refused("set(-1, 0, 0)", Due.BAD, Given::rolling, x -> x.set(-1, 0, 0));
        Given.refused("set(8, 0, 0)", Due.BAD, Given::rolling, x -> x.set(8, 0, 0));
        Given.refused("BAD ahead of PLACE", Due.BAD, Given::rolling, x -> x.set(8, -1, 0));
        Given.refused("set(7, 0, 0)", Due.NULL, Given::rolling, x -> x.set(7, 0, 0));
        Given.refused("NULL ahead of PLACE", Due.NULL, Given::rolling, x -> x.set(7, 40, 0));
        Given.refused("set(0, -1, 0)", Due.PLACE, Given::rolling, x -> x.set(0, -1, 0));
        Given.refused("set(0, 4, 0)", Due.PLACE, Given::rolling, x -> x.set(0, 4, 0));
        Given.refused("set(3, 0, 0), of none", Due.PLACE, Given::rolling, x -> x.set(3, 0, 0));
        Given.refused("set(0, max, 0)", Due.PLACE, Given::rolling, x -> x.set(0, Integer.MAX_VALUE, 0));
        Given.refused("set(0, min, 0)", Due.PLACE, Given::rolling, x -> x.set(0, Integer.MIN_VALUE, 0));
    }

    /** ITEMS of 1 to 4, told by the PACES that come to such a YARD. */
    private static void holdsItems(String when, HoopLane x, int row, int... due) {
        int[] paces = {0, 2 + 4, 8 + 16 + 32, 64 + 128 + 256, 512};
        for (int i = 0; i < due.length; i++) {
            Due.is(when + ", item " + i, paces[due[i]], x.seen(row, i, 1, 0));
        }
    }

    private static void copied(int i, int j, int n, int... due) {
        HoopLane x = Due.told("h1,2,5,0;gfffffff;");
        Due.fill(x, 0, 1, 1, 2, 3, 4);
        String call = "copy(0, " + i + ", 0, " + j + ", " + n + ")";
        Due.is(call, n, x.copy(0, i, 0, j, n));
        holdsItems(call, x, 0, due);
    }

    private static void copy() {
        Due.says("Promise 4", "n ITEMS of a from i on come to b from j on, as they were ahead: n.");
        copied(0, 1, 3, 1, 1, 2, 3);
        copied(1, 0, 3, 2, 3, 4, 4);
        copied(0, 0, 4, 1, 2, 3, 4);
        copied(0, 2, 2, 1, 2, 1, 2);
        copied(4, 0, 0, 1, 2, 3, 4);
        copied(0, 4, 0, 1, 2, 3, 4);
        HoopLane x = Due.told("h1,2,5,0;gfffffff;");
        Due.fill(x, 0, 1, 1, 2, 3);
        Due.fill(x, 7, 1, 4, 4, 4, 4);
        Due.is("copy(0, 1, 7, 2, 2) to the ends", 2, x.copy(0, 1, 7, 2, 2));
        holdsItems("of b", x, 7, 4, 4, 2, 3);
        holdsItems("of a", x, 0, 1, 2, 3);
    }

    private static void copyRefused() {
        Due.says("Promise 4", "BAD: ROWS; NULL; STORE; PLACE (i, j, n below 0, or beyond an end).");
        Given.refused("copy(-1, ..)", Due.BAD, Given::rolling, x -> x.copy(-1, 0, 0, 0, 1));
        Given.refused("copy(8, ..)", Due.BAD, Given::rolling, x -> x.copy(8, 0, 0, 0, 1));
        Given.refused("copy(.., -1, ..)", Due.BAD, Given::rolling, x -> x.copy(0, 0, -1, 0, 1));
        Given.refused("copy(.., 8, ..)", Due.BAD, Given::rolling, x -> x.copy(0, 0, 8, 0, 1));
        Given.refused("BAD of b ahead of NULL of a", Due.BAD, Given::rolling, x -> x.copy(7, 0, 8, 0, 1));
        Given.refused("a missing", Due.NULL, Given::rolling, x -> x.copy(7, 0, 0, 0, 1));
        Given.refused("b missing", Due.NULL, Given::rolling, x -> x.copy(0, 0, 7, 0, 1));
        Given.refused("both missing, no ITEMS", Due.NULL, Given::rolling, x -> x.copy(7, 0, 7, 0, 0));
        Given.refused("two LANES, no ITEMS", Due.STORE, Given::rolling, x -> x.copy(0, 0, 1, 0, 0));
        Given.refused("STORE ahead of PLACE", Due.STORE, Given::rolling, x -> x.copy(0, -1, 1, 0, 1));
        Given.refused("i below 0", Due.PLACE, Given::rolling, x -> x.copy(0, -1, 0, 0, 1));
        Given.refused("j below 0", Due.PLACE, Given::rolling, x -> x.copy(0, 0, 0, -1, 1));
        Given.refused("n below 0", Due.PLACE, Given::rolling, x -> x.copy(0, 1, 0, 0, -1));
        Given.refused("a's end", Due.PLACE, Given::rolling, x -> x.copy(0, 2, 0, 0, 3));
        Given.refused("b's end", Due.PLACE, Given::rolling, x -> x.copy(0, 0, 0, 2, 3));
        Given.refused("none behind a's end", Due.PLACE, Given::rolling, x -> x.copy(0, 5, 0, 0, 0));
        Given.refused("none behind b's end", Due.PLACE, Given::rolling, x -> x.copy(0, 0, 0, 5, 0));
        Given.refused("more than an int's sum", Due.PLACE, Given::rolling, x -> x.copy(0, 1, 0, 0, Integer.MAX_VALUE));
        Given.refused("i the most", Due.PLACE, Given::rolling, x -> x.copy(0, Integer.MAX_VALUE, 0, 0, 2));
        Given.refused("j the most", Due.PLACE, Given::rolling, x -> x.copy(0, 0, 0, Integer.MAX_VALUE, 2));
        Given.refused("n the least", Due.PLACE, Given::rolling, x -> x.copy(0, 1, 0, 1, Integer.MIN_VALUE));
    }

    private static void drop() {
        Due.says("Promise 5", "A ROW is missing from now on: how many ITEMS it had.");
        HoopLane x = Given.rolling();
        Due.is("drop(0)", 4, x.drop(0));
        Due.is("drop(3), of none", 0, x.drop(3));
        Due.is("count(0)", 2, x.count(0));
        Due.is("set(0, 0, 0)", Due.NULL, x.set(0, 0, 0));
        x.row(0, 0, 40);
        Due.is("drop(0), of 40", 40, x.drop(0));
        Due.is("copy to it", Due.NULL, x.copy(1, 0, 0, 0, 0));
    }

    private static void dropRefused() {
        Due.says("Promise 5", "BAD; NULL.");
        Given.refused("drop(-1)", Due.BAD, Given::rolling, x -> x.drop(-1));
        Given.refused("drop(8)", Due.BAD, Given::rolling, x -> x.drop(8));
        Given.refused("drop(4)", Due.NULL, Given::rolling, x -> x.drop(4));
        Given.refused("drop(0) of a new object", Due.NULL, HoopLane::new, x -> x.drop(0));
    }

    /** status() behind a call, of an object whose status() was 3 (KIND). */
    private static void status(String call, int due, Given.Call asked) {
        HoopLane x = Given.rolling();
        asked.on(x);
        Due.is("status() behind " + call, due, x.status());
    }

    private static void status() {
        Due.says("Promise 35", "Of the latest call with a ROW, or as(), that was not BAD, STATE, FULL: "
            + "the number of its FINDING;");
        status("NULL", 1, x -> x.set(7, 0, 0));
        status("PLACE", 2, x -> x.set(0, 4, 0));
        status("KIND", 3, x -> x.as(0, 2));
        status("SIZE", 4, x -> x.row(0, 0, -1));
        status("STORE", 5, x -> x.copy(0, 0, 1, 0, 1));
        status("copy(), NULL", 1, x -> x.copy(0, 0, 7, 0, 1));
        status("drop(), NULL", 1, x -> x.drop(7));
        status("plan(), NULL", 1, x -> x.plan(7, 0, 1, 0));
        status("plan(), PLACE", 2, x -> x.plan(0, 4, 1, 0));
        status("seen(), NULL", 1, x -> x.seen(7, 0, 1, 0));
        status("seen(), PLACE", 2, x -> x.seen(0, 4, 1, 0));
        status("who(), NULL", 1, x -> x.who(0, 7, 0, 1));
        status("who(), PLACE", 2, x -> x.who(0, 0, 4, 1));
        status("miss(), NULL", 1, x -> x.miss(7, 0, 1, 5, 0));
        status("miss(), PLACE", 2, x -> x.miss(0, 4, 1, 5, 0));
        status("BAD of a ROW", 3, x -> x.row(8, 0, 1));
        status("BAD of as()", 3, x -> x.as(0, 6));
        status("BAD of an ITEM, NULL ahead of it", 1, x -> x.set(0, 0, 9) + x.set(7, 0, 0) + x.plan(0, 0, 1, 0));
        status("BAD of an ITEM, too", 1, x -> x.set(0, 0, 9) + x.set(7, 0, 0) + x.miss(0, 0, 1, 5, 0));
        status("STATE of a call with a ROW", 3, x -> x.setUp(12, 9, 0) + x.moment(-1) + x.seen(0, 0, 1, 0));
        statusStays();
    }

    /** Calls without a ROW, be they refused or not. */
    private static void statusStays() {
        status("moment()", 3, x -> x.moment(0) + x.moment(9));
        status("setUp()", 3, x -> x.setUp(0, 1, 0) + x.setUp(99, 1, 0));
        status("lay()", 3, x -> x.lay(0, 1) + x.lay(99, 1));
        status("undo()", 3, x -> x.undo() + x.undo() + x.undo() + x.undo());
        status("feed(), lane() with a FAULT", 3, x -> x.feed(1) + x.feed(256) + x.lane() + x.fault());
        status("lane()", 3, x -> x.lane() + Due.read(x, "h5,3,3,1;gfff;v1;"));
        status("hoop()", 3, x -> x.hoop(0) + x.hoop(9));
        status("ground(), force()", 3, x -> x.ground(0) + x.ground(99) + x.force(0) + x.force(9));
        status("ahead()", 3, x -> x.ahead(1, 0) + x.ahead(99, 0));
        status("fewest(), soonest()", 3, x -> x.fewest(0) + x.fewest(9) + x.soonest(0) + x.soonest(9));
        status("heldFrom(), righted()", 3, x -> x.heldFrom() + x.righted());
        status("falls(), mend()", 3, x -> x.falls() + x.mend(0) + x.mend(9));
        status("drawn()", 3, x -> x.drawn(9, 9, 0) + x.drawn(9, 0, 0));
        status("image(), restore()", 3, x -> x.image(1) + x.image(9) + x.restore(1) + x.restore(9));
        status("kind(), ask(), trace()", 3, x -> x.kind(0) + x.kind(9) + x.ask(0, 0) + x.ask(9, 0) + x.trace(0));
        status("count(), status()", 3, x -> x.count(0) + x.count(9) + x.status());
    }

    private static void statusNone() {
        Due.says("Promise 35", "0: it had none, or there was none.");
        Due.is("there was none", 0, new HoopLane().status());
        HoopLane refusedOnly = new HoopLane();
        refusedOnly.set(8, 0, 0);
        refusedOnly.plan(0, 0, 1, 0);
        Due.is("there was none but BAD, STATE", 0, refusedOnly.status());
        status("row()", 0, x -> x.row(0, 0, 1));
        status("set()", 0, x -> x.set(0, 0, 1));
        status("copy()", 0, x -> x.copy(0, 0, 0, 0, 0));
        status("drop()", 0, x -> x.drop(0));
        status("plan()", 0, x -> x.plan(2, 0, 1, 0));
        status("plan() of none", 0, x -> x.plan(3, 0, 0, 0));
        status("seen()", 0, x -> x.seen(0, 0, 1, 0));
        status("who()", 0, x -> x.who(0, 0, 0, 1));
        status("miss()", 0, x -> x.miss(2, 0, 1, 5, 0));
        status("as()", 0, x -> x.as(0, 0));
    }
}
