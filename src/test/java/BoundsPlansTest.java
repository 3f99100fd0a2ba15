/** Each sentence on a boundary case: what is foretold by a ROW, promises 21 to 23 and 26. */
public final class BoundsPlansTest {
    /** PACE 6 upright, DRAG 1: without TAPS it is at 3, 5, 7, 9, 10, and DOWN at 11. */
    private static final String SLOWING = "h6,2,3,1;gffffffffffffff;";
    private static final int[] NO_TAPS = new int[24];

    public static void main(String[] args) {
        java.util.Arrays.fill(NO_TAPS, -1);
        planMoments();
        planHowMany();
        planEnd();
        seenMoments();
        seenEnds();
        seenPaces();
        seenLeans();
        who();
        missOf10();
        missMoments();
        missAsNone();
        missHome();
        plan();
        planRefused();
        planItems();
        seen();
        seenRefused();
        whoTold();
        whoRefused();
        miss();
        missRefused();
        missItems();
        Due.end();
    }

    // ---- PLAN

    private static void planned(String call, HoopLane x, int i, int n, int many, int end) {
        Due.is(call + ": plan(0, " + i + ", " + n + ", 0)", many, x.plan(0, i, n, 0));
        Due.is(call + ": plan(0, " + i + ", " + n + ", 1)", end, x.plan(0, i, n, 1));
    }

    private static void planMoments() {
        Due.says("3", "PLAN: a row tells TAPS (-1: none) for n MOMENTS (0 to 24) from now on:");
        HoopLane x = Due.told("h2,2,1,0;g" + "r".repeat(24) + ";v1;");
        Due.fill(x, 0, 0, NO_TAPS);
        planned("no MOMENT", x, 0, 0, 0, 0);
        planned("23", x, 0, 23, 23, 0);
        planned("24, all that there can be", x, 0, 24, 24, 2);
        Due.is("n 25", Due.BAD, x.plan(0, 0, 25, 0));
        Due.is("n -1", Due.BAD, x.plan(0, 0, -1, 0));
        x.set(0, 0, 0);
        planned("TAP 0 first", x, 0, 24, 12, 2);
        x.setUp(22, 2, 0);
        planned("from now on", x, 1, 23, 2, 2);
    }

    private static void planHowMany() {
        Due.says("3", "how many MOMENTS there are till it is DOWN, HOME, or all are done;");
        HoopLane x = Due.told(SLOWING + "v2;");
        Due.fill(x, 0, 1, NO_TAPS);
        Due.is("all are done", 5, x.plan(0, 0, 5, 0));
        Due.is("DOWN as all are done", 6, x.plan(0, 0, 6, 0));
        Due.is("DOWN", 6, x.plan(0, 0, 24, 0));
        x.set(0, 2, 0);
        Due.is("HOME", 6, x.plan(0, 0, 24, 0));
        Due.is("HOME as all are done", 6, x.plan(0, 0, 6, 0));
        Due.is("ahead of it", 5, x.plan(0, 0, 5, 0));
        x = Given.down();
        Due.fill(x, 0, 1, NO_TAPS);
        Due.is("DOWN already", 0, x.plan(0, 0, 24, 0));
        x = Given.home();
        Due.fill(x, 0, 1, NO_TAPS);
        Due.is("HOME already", 0, x.plan(0, 0, 24, 0));
    }

    private static void planEnd() {
        Due.says("3", "whether it is DOWN (1), HOME (2) then, or not (0).");
        HoopLane x = Due.told(SLOWING + "v2;");
        Due.fill(x, 0, 1, NO_TAPS);
        Due.is("not", 0, x.plan(0, 0, 5, 1));
        Due.is("DOWN", 1, x.plan(0, 0, 6, 1));
        x.set(0, 2, 0);
        Due.is("not", 0, x.plan(0, 0, 5, 1));
        Due.is("HOME", 2, x.plan(0, 0, 6, 1));
        Due.is("not by none", 0, x.plan(0, 0, 0, 1));
        Due.is("DOWN by none", 1, Given.down().plan(3, 0, 0, 1));
        Due.is("HOME by none", 2, Given.home().plan(3, 0, 0, 1));
    }

    private static void plan() {
        Due.says("Promise 21", "PLAN, n ITEMS of a ROW from i on: how many (what = 0), DOWN, HOME (1).");
        HoopLane x = Due.told("h1,2,1,1;gfff;v3;");
        Due.fill(x, 0, 2, -1, 0, -1, 0);
        planned("no TAP first", x, 0, 4, 1, 1);
        planned("a TAP first", x, 1, 3, 2, 2);
        planned("the last ITEM", x, 3, 1, 1, 0);
        planned("behind the last", x, 4, 0, 0, 0);
        Due.fill(x, 7, 0, new int[40]);
        Due.is("the last 24 of 40", 2, x.plan(7, 16, 24, 0));
    }

    private static void planRefused() {
        Due.says("Promise 21", "BAD: ROW, n, what; STATE: no LANE (ahead of BAD); NULL; PLACE;");
        Given.refused("ROW -1", Due.BAD, Given::rolling, x -> x.plan(-1, 0, 1, 0));
        Given.refused("ROW 8", Due.BAD, Given::rolling, x -> x.plan(8, 0, 1, 0));
        Given.refused("n -1", Due.BAD, Given::rolling, x -> x.plan(0, 0, -1, 0));
        Given.refused("n 25", Due.BAD, Given::rolling, x -> x.plan(0, 0, 25, 0));
        Given.refused("what -1", Due.BAD, Given::rolling, x -> x.plan(0, 0, 1, -1));
        Given.refused("what 2", Due.BAD, Given::rolling, x -> x.plan(0, 0, 1, 2));
        Given.refused("n ahead of NULL", Due.BAD, Given::rolling, x -> x.plan(7, 0, 25, 0));
        Given.refused("no LANE", Due.STATE, Given::noLane, x -> x.plan(0, 0, 1, 0));
        Given.refused("no LANE, ahead of BAD", Due.STATE, Given::noLane, x -> x.plan(8, 0, 25, 2));
        Given.refused("NULL", Due.NULL, Given::rolling, x -> x.plan(7, 0, 0, 0));
        Given.refused("NULL ahead of PLACE", Due.NULL, Given::rolling, x -> x.plan(7, -1, 1, 0));
        Given.refused("i -1", Due.PLACE, Given::rolling, x -> x.plan(2, -1, 1, 0));
        Given.refused("i -1, no ITEMS", Due.PLACE, Given::rolling, x -> x.plan(2, -1, 0, 0));
        Given.refused("beyond the end", Due.PLACE, Given::rolling, x -> x.plan(2, 1, 3, 0));
        Given.refused("no ITEMS beyond the end", Due.PLACE, Given::rolling, x -> x.plan(2, 4, 0, 0));
        Given.refused("i the most", Due.PLACE, Given::rolling, x -> x.plan(2, Integer.MAX_VALUE, 24, 0));
        Given.refused("i the least", Due.PLACE, Given::rolling, x -> x.plan(2, Integer.MIN_VALUE, 24, 0));
        Given.refused("NULL, DOWN", Due.NULL, Given::down, x -> x.plan(7, 0, 0, 0));
        Given.refused("PLACE, HOME", Due.PLACE, Given::home, x -> x.plan(2, 3, 1, 0));
    }

    /** Rows 4 and 5 with ITEMS that are no TAPS; nine TAPS in row 6. */
    private static HoopLane wrongItems() {
        HoopLane x = Given.rolling();
        Due.fill(x, 4, 0, 4, 5, -1);
        Due.fill(x, 5, 2, -2, Integer.MIN_VALUE, Integer.MAX_VALUE);
        Due.fill(x, 6, 0, 0, 1, 2, 3, 4, 0, 1, 2, 3, -1, -1);
        x.as(0, 4);
        return x;
    }

    private static HoopLane wrongItemsHome() {
        HoopLane x = wrongItems();
        x.setUp(12, 9, 0);
        x.moment(-1);
        return x;
    }

    private static void planItems() {
        Due.says("Promise 21", "then BAD: an ITEM that is no TAP, nor -1.");
        Given.refused("TAP 5 of 5", Due.BAD, BoundsPlansTest::wrongItems, x -> x.plan(4, 0, 2, 0));
        Given.refused("-2", Due.BAD, BoundsPlansTest::wrongItems, x -> x.plan(5, 0, 1, 0));
        Given.refused("the least", Due.BAD, BoundsPlansTest::wrongItems, x -> x.plan(5, 1, 1, 0));
        Given.refused("the most", Due.BAD, BoundsPlansTest::wrongItems, x -> x.plan(5, 2, 1, 0));
        Given.refused("PLACE ahead of it", Due.PLACE, BoundsPlansTest::wrongItems, x -> x.plan(5, 0, 4, 0));
        Given.refused("HOME already", Due.BAD, BoundsPlansTest::wrongItemsHome, x -> x.plan(4, 1, 1, 0));
        Due.is("TAP 4 of 5, of that alone", 1, wrongItems().plan(4, 0, 1, 0));
        Due.is("-1, of that alone", 1, wrongItems().plan(4, 2, 1, 0));
        Due.is("none is looked at", 0, wrongItems().plan(4, 1, 0, 0));
        HoopLane x = Due.told("h9,2,5,0;gfffff;v1;");
        Due.fill(x, 0, 0, -1, -1, 1);
        Due.is("behind the end, too", Due.BAD, x.plan(0, 0, 3, 0));
        Due.is("HOME ahead of it", 2, x.plan(0, 0, 2, 0));
    }

    // ---- SEEN, WHO

    private static void seen(String text, int paces, int leans, int... yards) {
        HoopLane x = Due.told(text);
        Due.fill(x, 3, 2, yards);
        Due.is("PACES, " + text, paces, x.seen(3, 0, yards.length, 0));
        Due.is("LEANS, " + text, leans, x.seen(3, 0, yards.length, 1));
    }

    private static void seenMoments() {
        Due.says("3", "SEEN: a row tells YARDS behind each of n MOMENTS (1 to 8) from now on, without TAPS");
        String rolling = "h3,2,1,0;g" + "r".repeat(24) + ";v5;";
        seen(rolling, 8 + 16 + 32, 16 + 32 + 64, 2);
        seen(rolling, 8 + 16 + 32, 16 + 32 + 64, 2, 4, 6, 8, 10, 12, 14, 16);
        seen(rolling, 0, 0, 2, 4, 6, 8, 10, 12, 14, 17);
        seen(rolling, 0, 0, 3, 4, 6, 8, 10, 12, 14, 16);
        HoopLane x = Due.told(rolling);
        Due.fill(x, 0, 0, 2, 4, 6, 8, 10, 12, 14, 16, 18);
        Due.is("n 0", Due.BAD, x.seen(0, 0, 0, 0));
        Due.is("n 9", Due.BAD, x.seen(0, 0, 9, 0));
        x.moment(-1);
        Due.is("from now on", 8 + 16 + 32, x.seen(0, 1, 8, 0));
    }

    private static void seenEnds() {
        Due.says("3", "(as it is when it is DOWN or HOME first):");
        seen("h9,2,5,0;gfffff;", 512, 2047, 4, 5);
        seen("h9,2,5,0;gfffff;", 512, 2047, 4, 5, 5, 5, 5, 5, 5, 5);
        seen("h9,2,5,0;gfffff;", 0, 0, 4, 6);
        seen("h9,2,5,0;gfffff;", 0, 0, 4, 8);
        // DOWN at YARD 7 by a LEAN of 3, -3.
        seen(SLOWING, 0, 4 + 256, 3, 5, 7, 7, 7, 7, 7, 7);
        seen(SLOWING, 0, 0, 3, 5, 7, 7, 7, 7, 7, 8);
        seen("h2,2,1,2;gffff;", 2 + 4, 16 + 32 + 64, 1, 1);
        seen("h2,2,1,2;gffff;", 0, 0, 1, 2);
    }

    private static void seenPaces() {
        Due.says("3", "PACES (bits 1 to 9) it can have now, all else as it is;");
        int[] paces = {0, 2 + 4, 8 + 16 + 32, 64 + 128 + 256, 512, 0};
        HoopLane x = Due.told("h5,2,5,0;gfffffffff;");
        for (int yard = 0; yard < paces.length; yard++) {
            Due.fill(x, 0, 0, yard);
            Due.is("at YARD " + yard, paces[yard], x.seen(0, 0, 1, 0));
        }
        x.setUp(4, 1, 0);
        Due.fill(x, 0, 0, 8);
        Due.is("the YARD as it is", 512, x.seen(0, 0, 1, 0));
        Due.fill(x, 0, 2, -1, Integer.MIN_VALUE, Integer.MAX_VALUE, 4);
        for (int i = 0; i < 4; i++) {
            Due.is("no such YARD, item " + i, 0, x.seen(0, i, 1, 0));
        }
        Due.read(x, "h5,2,5,0;gf;");
        Due.fill(x, 0, 0, 1);
        Due.is("by each PACE", 1022, x.seen(0, 0, 1, 0));
        // The LEAN as it is: 2, by which it is DOWN at once, PACE below 4.
        seen("h5,4,2,0;gffffff;", 16 + 32, 8 + 16 + 32 + 64 + 128, 2, 4);
    }

    private static void seenLeans() {
        Due.says("3", "LEANS (of -HOLDS to HOLDS; bits 0 to 10: 5 more).");
        int[] leans = {0, 16 + 32 + 64, 8 + 16 + 32 + 64 + 128, 4 + 8 + 16 + 32 + 64 + 128 + 256, 2046 - 1024, 2047};
        for (int holds = 1; holds <= 5; holds++) {
            HoopLane x = Due.told("h5,2," + holds + ",0;gfff;");
            Due.fill(x, 0, 0, 2);
            Due.is("LEANS of HOLDS " + holds, leans[holds], x.seen(0, 0, 1, 1));
        }
        // By HOLDS or less HOLDS it is DOWN at YARD 2.
        seen("h3,2,5,0;gffff;", 8 + 16 + 32, 2047, 2);
        seen("h3,2,5,0;gffff;", 0, 1 + 1024, 2, 2);
        seen("h3,2,5,0;gffff;", 8 + 16 + 32, 2047 - 1 - 1024, 2, 4);
        HoopLane x = Due.told("h3,4,1,0;gffff;");
        Due.fill(x, 0, 0, 2, 2);
        Due.is("not LEAN 2, as read, of HOLDS 1", 16 + 64, x.seen(0, 0, 2, 1));
    }

    private static void who(String text, int kinds, int... yards) {
        HoopLane x = Due.told(text);
        Due.fill(x, 6, 1, yards);
        Due.is("who, " + text, kinds, x.who(0, 6, 0, yards.length));
    }

    private static void who() {
        Due.says("3", "WHO: a row tells so, one TAP being in this MOMENT: KINDS (bits 1 to 5) of it by which it comes so.");
        who("h4,0,3,0;gffffffffffff;v4;", 2 + 4 + 8, 3, 6);
        who("h4,0,3,0;gffffffffffff;t4;", 16 + 32, 1, 1);
        who("h4,0,3,0;gfffsffffffff;b4;", 2, 3, 3);
        who("h4,0,3,0;gfffsffffffff;i4;", 4 + 8, 3, 6);
        who("h4,0,2,0;gffffffffffff;b1;", 16, 2, 2);
        who("h4,0,2,0;gffffffffffff;b1;", 2 + 4 + 8 + 32, 2, 4);
        who("h4,0,2,0;gffffffffffff;b1;", 0, 4);
        // In this MOMENT alone; then without TAPS.
        who("h1,2,5,0;gffffffffffff;v3;", 2 + 8, 2, 4, 6, 8, 10, 12, 12, 12);
        // HOME it stays, whatever it is.
        who("h9,2,2,0;gfff;b1;", 2 + 4 + 8 + 16 + 32, 3, 3, 3, 3, 3, 3, 3, 3);
        who("h9,2,2,0;gfff;b1;", 0, 3, 3, 3, 3, 3, 3, 3, 4);
        HoopLane x = Due.told("h4,2,3,0;gffffffffffff;v1;v5;");
        Due.fill(x, 0, 0, 4);
        Due.is("FORCE 1", 0, x.who(0, 0, 0, 1));
        Due.is("FORCE 5", 2 + 8, x.who(1, 0, 0, 1));
    }

    private static void seen() {
        Due.says("Promise 22", "SEEN, n ITEMS of a ROW from i on: PACES (what = 0), LEANS (1).");
        HoopLane x = Due.told(SLOWING);
        Due.fill(x, 7, 2, 9, 3, 5, 9);
        Due.is("PACES", 64, x.seen(7, 1, 2, 0));
        Due.is("LEANS", 4 + 8 + 16 + 32 + 64 + 128 + 256, x.seen(7, 1, 2, 1));
        Due.is("just these ITEMS", 64 + 128 + 256, x.seen(7, 1, 1, 0));
        Due.is("to the end", 0, x.seen(7, 1, 3, 0));
        Due.fill(x, 7, 0, new int[40]);
        Due.is("the last 8 of 40", 0, x.seen(7, 32, 8, 0));
    }

    private static void seenRefused() {
        Due.says("Promise 22",
            "BAD: ROW, n, what; STATE: no LANE (ahead of BAD), it is DOWN, HOME; NULL; PLACE.");
        Given.refused("ROW -1", Due.BAD, Given::rolling, x -> x.seen(-1, 0, 1, 0));
        Given.refused("ROW 8", Due.BAD, Given::rolling, x -> x.seen(8, 0, 1, 0));
        Given.refused("n 0", Due.BAD, Given::rolling, x -> x.seen(0, 0, 0, 0));
        Given.refused("n -1", Due.BAD, Given::rolling, x -> x.seen(0, 0, -1, 0));
        Given.refused("n 9", Due.BAD, Given::rolling, x -> x.seen(0, 0, 9, 0));
        Given.refused("what -1", Due.BAD, Given::rolling, x -> x.seen(0, 0, 1, -1));
        Given.refused("what 2", Due.BAD, Given::rolling, x -> x.seen(0, 0, 1, 2));
        Given.refused("no LANE", Due.STATE, Given::noLane, x -> x.seen(0, 0, 1, 0));
        Given.refused("no LANE, ahead of BAD", Due.STATE, Given::noLane, x -> x.seen(8, 0, 0, 2));
        Given.refused("DOWN", Due.STATE, Given::down, x -> x.seen(0, 0, 1, 0));
        Given.refused("HOME", Due.STATE, Given::home, x -> x.seen(0, 0, 1, 1));
        Given.refused("BAD ahead of DOWN", Due.BAD, Given::down, x -> x.seen(0, 0, 9, 0));
        Given.refused("BAD ahead of HOME", Due.BAD, Given::home, x -> x.seen(8, 0, 1, 0));
        Given.refused("DOWN ahead of NULL", Due.STATE, Given::down, x -> x.seen(7, 0, 1, 0));
        Given.refused("HOME ahead of PLACE", Due.STATE, Given::home, x -> x.seen(0, 4, 1, 0));
        Given.refused("NULL", Due.NULL, Given::rolling, x -> x.seen(7, 0, 1, 0));
        Given.refused("NULL ahead of PLACE", Due.NULL, Given::rolling, x -> x.seen(7, -1, 1, 0));
        Given.refused("i -1", Due.PLACE, Given::rolling, x -> x.seen(0, -1, 1, 0));
        Given.refused("i at the end", Due.PLACE, Given::rolling, x -> x.seen(0, 4, 1, 0));
        Given.refused("beyond the end", Due.PLACE, Given::rolling, x -> x.seen(0, 2, 3, 1));
        Given.refused("i the most", Due.PLACE, Given::rolling, x -> x.seen(0, Integer.MAX_VALUE, 8, 0));
    }

    private static void whoTold() {
        Due.says("Promise 23", "WHO, n ITEMS (1 to 8) of a ROW from i on.");
        HoopLane x = Due.told("h4,0,3,0;gffffffffffff;v1;v4;");
        Due.fill(x, 7, 1, 9, 3, 6, 9, 12, 12, 12, 12, 12, 12);
        Due.is("n 0", Due.BAD, x.who(1, 7, 1, 0));
        Due.is("one", 2 + 4 + 8, x.who(1, 7, 1, 1));
        Due.is("eight", 2 + 4 + 8, x.who(1, 7, 1, 8));
        Due.is("n 9", Due.BAD, x.who(1, 7, 1, 9));
        Due.is("from i on", 0, x.who(1, 7, 0, 8));
        Due.is("to the end", 0, x.who(1, 7, 2, 8));
    }

    private static void whoRefused() {
        Due.says("Promise 23", "BAD: TAP, ROW, n; STATE: it is DOWN, HOME; NULL; PLACE.");
        Given.refused("TAP -1", Due.BAD, Given::rolling, x -> x.who(-1, 0, 0, 1));
        Given.refused("TAP 5", Due.BAD, Given::rolling, x -> x.who(5, 0, 0, 1));
        Given.refused("ROW -1", Due.BAD, Given::rolling, x -> x.who(0, -1, 0, 1));
        Given.refused("ROW 8", Due.BAD, Given::rolling, x -> x.who(0, 8, 0, 1));
        Given.refused("n 0", Due.BAD, Given::rolling, x -> x.who(0, 0, 0, 0));
        Given.refused("n 9", Due.BAD, Given::rolling, x -> x.who(0, 0, 0, 9));
        Given.refused("no LANE, no TAP", Due.BAD, Given::noLane, x -> x.who(0, 0, 0, 1));
        Given.refused("DOWN", Due.STATE, Given::down, x -> x.who(0, 0, 0, 1));
        Given.refused("HOME", Due.STATE, Given::home, x -> x.who(4, 0, 0, 1));
        Given.refused("BAD ahead of DOWN", Due.BAD, Given::down, x -> x.who(5, 0, 0, 1));
        Given.refused("BAD ahead of HOME", Due.BAD, Given::home, x -> x.who(0, 0, 0, 9));
        Given.refused("DOWN ahead of NULL", Due.STATE, Given::down, x -> x.who(0, 7, 0, 1));
        Given.refused("HOME ahead of PLACE", Due.STATE, Given::home, x -> x.who(0, 0, 4, 1));
        Given.refused("NULL", Due.NULL, Given::rolling, x -> x.who(0, 7, 0, 1));
        Given.refused("NULL ahead of PLACE", Due.NULL, Given::rolling, x -> x.who(0, 7, -1, 1));
        Given.refused("i -1", Due.PLACE, Given::rolling, x -> x.who(0, 0, -1, 1));
        Given.refused("i at the end", Due.PLACE, Given::rolling, x -> x.who(0, 0, 4, 1));
        Given.refused("beyond the end", Due.PLACE, Given::rolling, x -> x.who(0, 0, 2, 3));
        Given.refused("i the most", Due.PLACE, Given::rolling, x -> x.who(0, 0, Integer.MAX_VALUE, 8));
    }

    // ---- MISS

    private static void missed(HoopLane x, int i, int n, int p, long above, long below) {
        String call = "miss(0, " + i + ", " + n + ", " + p + ", ";
        Due.is(call + "0)", above, x.miss(0, i, n, p, 0));
        Due.is(call + "1)", below, x.miss(0, i, n, p, 1));
    }

    private static void missOf10() {
        Due.says("3", "MISS by p of 10 (0 to 10):");
        HoopLane x = Due.told("h1,2,1,1;gfff;v3;");
        Due.fill(x, 0, 0, 0, -1);
        long[] above = {1, 9, 4, 7, 3, 1, 2, 3, 1, 1, 0};
        long[] below = {1, 10, 5, 10, 5, 2, 5, 10, 5, 10, 1};
        for (int p = 0; p <= 10; p++) {
            missed(x, 0, 2, p, above[p], below[p]);
        }
        Due.is("p -1", Due.BAD, x.miss(0, 0, 2, -1, 0));
        Due.is("p 11", Due.BAD, x.miss(0, 0, 2, 11, 0));
    }

    private static void missMoments() {
        Due.says("3", "a row tells n MOMENTS as a PLAN (1 to 24, 8 TAPS at most):");
        HoopLane x = Due.told("h2,2,1,0;g" + "r".repeat(24) + ";v1;");
        Due.fill(x, 0, 0, NO_TAPS);
        missed(x, 0, 1, 5, 0, 1);
        missed(x, 0, 23, 5, 0, 1);
        missed(x, 0, 24, 5, 1, 1);
        Due.is("n 0", Due.BAD, x.miss(0, 0, 0, 5, 0));
        Due.is("n 25", Due.BAD, x.miss(0, 0, 25, 5, 0));
        x = Due.told("h1,2,1,1;grrrrrrrrrr;v1;");
        Due.fill(x, 0, 0, 0, 0, 0, 0, 0, 0, 0, 0, 0, -1, -1);
        x.setUp(1, 1, 0);
        missed(x, 0, 8, 1, 0, 1);
        missed(x, 1, 9, 1, 43046721, 100000000);
        Due.is("9 TAPS", Due.BAD, x.miss(0, 0, 9, 1, 0));
        Due.is("9 TAPS, and none", Due.BAD, x.miss(0, 0, 11, 1, 1));
    }

    private static void missAsNone() {
        Due.says("3", "each TAP misses in p of 10 cases, apart, and is as none:");
        HoopLane x = Due.told("h1,2,1,0;gfff;v3;");
        Due.fill(x, 0, 0, 0, 0, -1);
        // One at least of the two: 1 less 3/10 times 3/10.
        missed(x, 0, 3, 3, 91, 100);
        missed(x, 0, 3, 5, 3, 4);
        missed(x, 0, 3, 9, 19, 100);
        // The one that comes behind none.
        Due.fill(x, 0, 0, -1, 0);
        missed(x, 0, 2, 3, 7, 10);
        // Both are wanted.
        x = Due.told("h1,2,1,1;grrr;v1;");
        Due.fill(x, 0, 0, 0, 0, -1);
        missed(x, 0, 3, 3, 49, 100);
        // Just by missing.
        x = Due.told("h3,2,5,0;gff;b5;");
        Due.fill(x, 0, 0, 0);
        missed(x, 0, 1, 3, 3, 10);
        missed(x, 0, 1, 0, 0, 1);
        missed(x, 0, 1, 10, 1, 1);
        // All eight, at the least and the most of what they are by 10 to the eighth.
        x = Due.told("h1,2,1,1;grrrrrrrrr;v1;");
        Due.fill(x, 0, 0, 0, 0, 0, 0, 0, 0, 0, 0, -1);
        missed(x, 0, 9, 9, 1, 100000000);
        missed(x, 0, 9, 0, 1, 1);
        missed(x, 0, 9, 1, 43046721, 100000000);
    }

    private static void missHome() {
        Due.says("3", "how likely it is HOME when they are done, or before: a fraction.");
        HoopLane x = Due.told("h1,2,1,1;gfff;v3;");
        Due.fill(x, 0, 0, 0, -1, 0, 0, -1);
        missed(x, 0, 1, 3, 0, 1);
        missed(x, 0, 2, 3, 7, 10);
        missed(x, 0, 3, 3, 7, 10);
        missed(x, 0, 5, 3, 7, 10);
        x = Given.home();
        Due.fill(x, 0, 0, 0, -1);
        missed(x, 0, 2, 3, 1, 1);
        missed(x, 1, 1, 10, 1, 1);
        x = Given.down();
        Due.fill(x, 0, 0, 0, -1);
        missed(x, 0, 2, 3, 0, 1);
        missed(x, 1, 1, 0, 0, 1);
    }

    private static void miss() {
        Due.says("Promise 26", "MISS, n ITEMS of a ROW from i on: above (what = 0), below (1).");
        HoopLane x = Due.told("h1,2,1,1;gfff;v3;");
        Due.fill(x, 0, 2, -1, 0, -1, 0);
        missed(x, 0, 4, 3, 0, 1);
        missed(x, 1, 2, 3, 7, 10);
        missed(x, 1, 3, 6, 2, 5);
        missed(x, 3, 1, 3, 0, 1);
        int[] last = new int[40];
        java.util.Arrays.fill(last, -1);
        last[16] = 0;
        Due.fill(x, 0, 0, last);
        missed(x, 16, 24, 3, 7, 10);
    }

    private static void missRefused() {
        Due.says("Promise 26", "BAD: ROW, n, p, what; STATE: no LANE (ahead of BAD); NULL; PLACE;");
        Given.refused("ROW -1", Due.BAD, Given::rolling, x -> x.miss(-1, 0, 1, 5, 0));
        Given.refused("ROW 8", Due.BAD, Given::rolling, x -> x.miss(8, 0, 1, 5, 0));
        Given.refused("n 0", Due.BAD, Given::rolling, x -> x.miss(2, 0, 0, 5, 0));
        Given.refused("n 25", Due.BAD, Given::rolling, x -> x.miss(2, 0, 25, 5, 0));
        Given.refused("p -1", Due.BAD, Given::rolling, x -> x.miss(2, 0, 1, -1, 0));
        Given.refused("p 11", Due.BAD, Given::rolling, x -> x.miss(2, 0, 1, 11, 0));
        Given.refused("what -1", Due.BAD, Given::rolling, x -> x.miss(2, 0, 1, 5, -1));
        Given.refused("what 2", Due.BAD, Given::rolling, x -> x.miss(2, 0, 1, 5, 2));
        Given.refused("p ahead of NULL", Due.BAD, Given::rolling, x -> x.miss(7, 0, 1, 11, 0));
        Given.refused("no LANE", Due.STATE, Given::noLane, x -> x.miss(2, 0, 1, 5, 0));
        Given.refused("no LANE, ahead of BAD", Due.STATE, Given::noLane, x -> x.miss(8, 0, 0, 11, 2));
        Given.refused("NULL", Due.NULL, Given::rolling, x -> x.miss(7, 0, 1, 5, 0));
        Given.refused("NULL ahead of PLACE", Due.NULL, Given::rolling, x -> x.miss(7, -1, 1, 5, 0));
        Given.refused("i -1", Due.PLACE, Given::rolling, x -> x.miss(2, -1, 1, 5, 0));
        Given.refused("i at the end", Due.PLACE, Given::rolling, x -> x.miss(2, 3, 1, 5, 0));
        Given.refused("beyond the end", Due.PLACE, Given::rolling, x -> x.miss(2, 1, 3, 5, 0));
        Given.refused("i the most", Due.PLACE, Given::rolling, x -> x.miss(2, Integer.MAX_VALUE, 24, 5, 0));
        Given.refused("NULL, DOWN", Due.NULL, Given::down, x -> x.miss(7, 0, 1, 5, 0));
        Given.refused("PLACE, HOME", Due.PLACE, Given::home, x -> x.miss(2, 3, 1, 5, 0));
    }

    private static void missItems() {
        Due.says("Promise 26", "then BAD: an ITEM that is no TAP, nor -1, more than 8 TAPS.");
        Given.refused("TAP 5 of 5", Due.BAD, BoundsPlansTest::wrongItems, x -> x.miss(4, 0, 2, 5, 0));
        Given.refused("-2", Due.BAD, BoundsPlansTest::wrongItems, x -> x.miss(5, 0, 1, 5, 0));
        Given.refused("the least", Due.BAD, BoundsPlansTest::wrongItems, x -> x.miss(5, 1, 1, 5, 0));
        Given.refused("the most", Due.BAD, BoundsPlansTest::wrongItems, x -> x.miss(5, 2, 1, 5, 0));
        Given.refused("nine TAPS", Due.BAD, BoundsPlansTest::wrongItems, x -> x.miss(6, 0, 9, 5, 1));
        Given.refused("nine TAPS, and none", Due.BAD, BoundsPlansTest::wrongItems, x -> x.miss(6, 0, 11, 5, 1));
        Given.refused("PLACE ahead of nine", Due.PLACE, BoundsPlansTest::wrongItems, x -> x.miss(6, 0, 12, 5, 1));
        Given.refused("PLACE ahead of no TAP", Due.PLACE, BoundsPlansTest::wrongItems, x -> x.miss(5, 0, 4, 5, 1));
        Given.refused("HOME already", Due.BAD, BoundsPlansTest::wrongItemsHome, x -> x.miss(4, 1, 1, 5, 0));
        Given.refused("nine, HOME already", Due.BAD, BoundsPlansTest::wrongItemsHome, x -> x.miss(6, 0, 9, 5, 0));
        Due.is("eight TAPS", 1, wrongItems().miss(6, 0, 8, 10, 1));
        Due.is("eight TAPS, and none", 1, wrongItems().miss(6, 1, 10, 10, 1));
        Due.is("TAP 4 of 5", 1, wrongItems().miss(4, 0, 1, 10, 1));
        Due.is("-1", 1, wrongItems().miss(4, 2, 1, 5, 1));
    }
}
