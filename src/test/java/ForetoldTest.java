/** Promises 16 to 27: what is foretold, by hand; refusals in their order; nothing changes by it. */
public final class ForetoldTest {
    /** PACE 6 upright, DRAG 1: without TAPS it is at 3, 5, 7, 9, 10, and DOWN at 11. */
    private static final String SLOWING = "h6,2,3,1;gffffffffffffff;";

    public static void main(String[] args) {
        ahead();
        fewest();
        soonest();
        heldFrom();
        righted();
        plan();
        planRefused();
        seen();
        who();
        seenRefused();
        whoRefused();
        theLastRow();
        theEnds();
        falls();
        mend();
        miss();
        missRefused();
        drawn();
        nothingChanges();
        Due.end();
    }

    private static void ahead(HoopLane x, int n, int... due) {
        for (int what = 0; what < 4; what++) {
            Due.is("ahead(" + n + ", " + what + ")", due[what], x.ahead(n, what));
        }
    }

    private static void ahead() {
        HoopLane x = new HoopLane();
        Due.is("ahead, no LANE", Due.STATE, x.ahead(-1, 9));
        Due.read(x, SLOWING);
        ahead(x, 0, 0, 6, 0, 0);
        ahead(x, 1, 3, 5, 0, 0);
        ahead(x, 2, 5, 4, 0, 0);
        ahead(x, 3, 7, 3, -1, 0);
        ahead(x, 5, 10, 1, -3, 0);
        ahead(x, 6, 11, 0, -4, 1);
        ahead(x, 40, 11, 0, -4, 1);
        Due.is("ahead(-1, 0)", Due.BAD, x.ahead(-1, 0));
        Due.is("ahead(41, 0)", Due.BAD, x.ahead(41, 0));
        Due.is("ahead(1, -1)", Due.BAD, x.ahead(1, -1));
        Due.is("ahead(1, 4)", Due.BAD, x.ahead(1, 4));
        Due.read(x, "h9,2,3,0;gfffff;v1;");
        ahead(x, 1, 4, 9, 0, 0);
        ahead(x, 2, 5, 9, 0, 2);
        ahead(x, 40, 5, 9, 0, 2);
        x.moment(-1);
        x.moment(-1);
        ahead(x, 3, 5, 9, 0, 2);
        Due.read(x, "h5,4,1,0;gfffff;");
        ahead(x, 0, 0, 5, 2, 0);
        ahead(x, 1, 2, 5, 2, 1);
    }

    private static void fewest(String text, int many, int first) {
        HoopLane x = Due.told(text);
        Due.is("fewest(0) of " + text, many, x.fewest(0));
        Due.is("fewest(1) of " + text, first, x.fewest(1));
    }

    private static void fewest() {
        HoopLane x = new HoopLane();
        Due.is("fewest, no LANE", Due.STATE, x.fewest(9));
        fewest(SLOWING, Due.NONE, Due.NONE);
        fewest(SLOWING + "v2;o5;", 1, Due.NONE);
        fewest("h9,2,3,0;gfffff;v1;", 0, Due.NONE);
        fewest("h1,2,1,1;gfff;v3;", 1, 0);
        fewest("h1,2,1,1;gfff;t1;v3;v3;", 1, 1);
        fewest("h1,2,1,1;gfff;b1;", Due.NONE, Due.NONE);
        // A TAP each MOMENT but the last, which is HOME without one.
        fewest("h1,2,1,1;grrrrrrrr;v1;", 7, 0);
        // LEAN beyond HOLDS as read: the righting one saves it.
        fewest("h5,4,1,0;gfffff;b1;i1;", 1, 1);
        Due.read(x, "h1,2,1,0;gfff;v3;");
        Due.is("fewest(0)", 1, x.fewest(0));
        Due.is("it can wait", Due.NONE, x.fewest(1));
        x.moment(-1);
        Due.is("fewest(0)", 1, x.fewest(0));
        Due.is("now, or never", 0, x.fewest(1));
        Due.is("fewest(-1)", Due.BAD, x.fewest(-1));
        Due.is("fewest(2)", Due.BAD, x.fewest(2));
        x.moment(0);
        Due.is("HOME", 0, x.fewest(0));
        Due.is("HOME", Due.NONE, x.fewest(1));
        x.undo();
        x.moment(-1);
        Due.is("DOWN", Due.NONE, x.fewest(0));
        Due.is("DOWN", Due.NONE, x.fewest(1));
    }

    private static void soonest(String text, int many, int first) {
        HoopLane x = Due.told(text);
        Due.is("soonest(0) of " + text, many, x.soonest(0));
        Due.is("soonest(1) of " + text, first, x.soonest(1));
    }

    private static void soonest() {
        HoopLane x = new HoopLane();
        Due.is("soonest, no LANE", Due.STATE, x.soonest(9));
        soonest(SLOWING, Due.NONE, Due.NONE);
        soonest(SLOWING + "v2;o5;", 4, Due.NONE);
        soonest("h6,2,3,1;gffffffffffffffff;v2;o5;", 4, 1);
        soonest("h6,2,3,1;gffffffffffffffff;v4;o4;", 4, 0);
        soonest("h6,2,3,1;gfffffffffffffff;v4;o4;", 4, Due.NONE);
        // The stone at YARD 4 lets just the hopping one come there.
        soonest("h6,2,1,0;gffffsfff;v3;o3;", 2, 1);
        Due.read(x, "h5,2,3,0;gff;v3;");
        Due.is("soonest(0)", 1, x.soonest(0));
        Due.is("soonest(-1)", Due.BAD, x.soonest(-1));
        Due.is("soonest(2)", Due.BAD, x.soonest(2));
        x.moment(-1);
        Due.is("HOME", 0, x.soonest(0));
        Due.is("HOME", Due.NONE, x.soonest(1));
        x = Due.told("h1,2,1,1;gffff;v3;");
        x.moment(-1);
        Due.is("DOWN", Due.NONE, x.soonest(0));
        Due.is("DOWN", Due.NONE, x.soonest(1));
    }

    private static void heldFrom() {
        HoopLane x = new HoopLane();
        Due.is("heldFrom, no LANE", Due.STATE, x.heldFrom());
        Due.is("upright", 3, Due.told("h1,2,1,1;gfff;").heldFrom());
        Due.is("leaning", 5, Due.told("h1,3,1,1;gfff;").heldFrom());
        Due.is("LEAN beyond HOLDS", 3, Due.told("h5,4,1,0;gffr;").heldFrom());
        Due.is("by a TAP", 1, Due.told("h9,2,1,1;gfff;v3;").heldFrom());
        Due.is("none", Due.NONE, Due.told("h9,2,5,3;gffffffffffffff;").heldFrom());
        Due.is("9", 9, Due.told("h1,2,1,3;gffffffff;").heldFrom());
        Due.read(x, "h1,2,1,1;gfff;");
        x.moment(-1);
        Due.is("DOWN", Due.NONE, x.heldFrom());
        x.setUp(2, 9, 0);
        Due.is("set up", 1, x.heldFrom());
        x.moment(-1);
        Due.is("HOME", Due.NONE, x.heldFrom());
    }

    private static void righted() {
        HoopLane x = new HoopLane();
        Due.is("righted, no LANE", Due.STATE, x.righted());
        Due.is("upright alone", 1, Due.told("h4,2,2,0;gffsf;b1;").righted());
        Due.is("whatever LEAN now", 1, Due.told("h4,4,2,0;gffsf;b1;").righted());
        Due.is("all", 3, Due.told("h4,4,2,0;gffff;b1;").righted());
        Due.is("all, 5 too", 6, Due.told("h4,4,5,0;gffff;b1;").righted());
        Due.is("none", 0, Due.told("h1,2,2,1;gffff;b1;").righted());
        Due.is("no TAPS", Due.NONE, Due.told("h4,2,2,0;gffsf;").righted());
        Due.read(x, "h1,2,1,1;gfff;b1;");
        x.moment(-1);
        Due.is("DOWN", Due.NONE, x.righted());
        x.setUp(2, 9, 0);
        Due.is("set up", 2, x.righted());
        x.moment(-1);
        Due.is("HOME", Due.NONE, x.righted());
    }

    private static void planned(HoopLane x, int i, int n, int many, int end) {
        Due.is("plan(0, " + i + ", " + n + ", 0)", many, x.plan(0, i, n, 0));
        Due.is("plan(0, " + i + ", " + n + ", 1)", end, x.plan(0, i, n, 1));
    }

    private static void plan() {
        HoopLane x = Due.told(SLOWING + "v2;t1;");
        Due.fill(x, 0, 0, -1, -1, 0, -1, -1, -1, -1, -1, -1, -1, -1, -1);
        planned(x, 0, 6, 6, 2);
        planned(x, 0, 5, 5, 0);
        planned(x, 0, 0, 0, 0);
        planned(x, 12, 0, 0, 0);
        planned(x, 0, 12, 6, 2);
        planned(x, 3, 9, 6, 1);
        planned(x, 3, 5, 5, 0);
        planned(x, 2, 1, 1, 0);
        x.moment(-1);
        x.moment(-1);
        planned(x, 2, 4, 4, 2);
        x.setUp(13, 9, 0);
        x.moment(-1);
        planned(x, 0, 12, 0, 2);
        x.setUp(13, 9, 0);
        Due.read(x, "h1,2,1,1;gffff;v1;");
        x.moment(-1);
        planned(x, 0, 12, 0, 1);
        x.row(0, 0, 40);
        planned(x, 16, 24, 0, 1);
    }

    private static void planRefused() {
        HoopLane x = new HoopLane();
        Due.is("plan, no LANE", Due.STATE, x.plan(-1, 0, 25, 9));
        Due.read(x, SLOWING + "v2;t1;");
        Due.fill(x, 0, 0, -1, 1, 2, -2);
        Due.is("ROW -1", Due.BAD, x.plan(-1, 0, 1, 0));
        Due.is("ROW 8", Due.BAD, x.plan(8, 0, 1, 0));
        Due.is("n -1", Due.BAD, x.plan(0, 0, -1, 0));
        Due.is("n 25", Due.BAD, x.plan(0, 0, 25, 0));
        Due.is("what -1", Due.BAD, x.plan(0, 0, 1, -1));
        Due.is("what 2, ahead of NULL", Due.BAD, x.plan(1, 0, 1, 2));
        Due.is("NULL ahead of PLACE", Due.NULL, x.plan(1, -1, 1, 0));
        Due.is("i -1", Due.PLACE, x.plan(0, -1, 1, 0));
        Due.is("beyond", Due.PLACE, x.plan(0, 2, 3, 0));
        Due.is("beyond, none", Due.PLACE, x.plan(0, 5, 0, 0));
        Due.is("beyond int", Due.PLACE, x.plan(0, Integer.MAX_VALUE, 24, 0));
        Due.is("no such TAP", Due.BAD, x.plan(0, 0, 3, 0));
        Due.is("less than -1", Due.BAD, x.plan(0, 3, 1, 0));
        Due.is("just what is told counts", 2, x.plan(0, 0, 2, 0));
        x.setUp(13, 9, 0);
        x.moment(-1);
        Due.is("HOME, and no such TAP", Due.BAD, x.plan(0, 2, 1, 0));
    }

    private static void seen(String text, int paces, int leans, int... yards) {
        HoopLane x = Due.told(text);
        Due.fill(x, 3, 2, yards);
        Due.is("seen, PACES, " + text, paces, x.seen(3, 0, yards.length, 0));
        Due.is("seen, LEANS, " + text, leans, x.seen(3, 0, yards.length, 1));
    }

    private static void seen() {
        seen(SLOWING, 64 + 128 + 256, 4 + 8 + 16 + 32 + 64 + 128 + 256, 3);
        seen(SLOWING, 64, 4 + 8 + 16 + 32 + 64 + 128 + 256, 3, 5);
        seen(SLOWING, 64, 8 + 16 + 32 + 64 + 128, 3, 5, 7, 9);
        seen(SLOWING, 64, 16 + 32 + 64, 3, 5, 7, 9, 10);
        seen(SLOWING, 0, 4 + 256, 3, 5, 7, 7);
        seen(SLOWING, 0, 4 + 256, 3, 5, 7, 7, 7, 7, 7, 7);
        seen(SLOWING, 0, 0, 3, 5, 7, 7, 7, 7, 7, 8);
        seen(SLOWING, 2 + 4, 0, 1);
        seen("h9,2,5,0;gfffff;", 512, 2047, 4, 5, 5);
        seen("h9,2,1,0;gfffff;", 512, 16 + 32 + 64, 4, 5);
        seen("h9,2,1,0;gfffff;", 8 + 16 + 32, 0, 2);
        HoopLane x = Due.told(SLOWING);
        Due.fill(x, 0, 0, 0, 7, 9);
        x.moment(-1);
        x.moment(-1);
        Due.is("from now on", 8 + 16 + 32, x.seen(0, 1, 1, 0));
        Due.is("from now on", 16 + 32, x.seen(0, 1, 2, 0));
    }

    private static void who(String text, int kinds, int... yards) {
        HoopLane x = Due.told(text);
        Due.fill(x, 6, 1, yards);
        Due.is("who, " + text, kinds, x.who(0, 6, 0, yards.length));
    }

    private static void who() {
        who("h4,0,3,0;gffffffffffff;v4;", 2 + 4 + 8, 3, 6);
        who("h4,0,3,0;gffffffffffff;t4;", 16 + 32, 1, 1);
        who("h4,0,3,0;gfffsffffffff;b4;", 2, 3, 3);
        who("h4,0,3,0;gfffsffffffff;i4;", 4 + 8, 3, 6);
        who("h4,0,2,0;gffffffffffff;b1;", 16, 2, 2);
        who("h4,0,2,0;gffffffffffff;b1;", 2 + 4 + 8 + 32, 2, 4);
        who("h4,0,2,0;gffffffffffff;b1;", 0, 4);
        who("h9,2,2,0;gfff;b1;", 2 + 4 + 8 + 16 + 32, 3, 3, 3, 3, 3, 3, 3, 3);
        HoopLane x = Due.told("h4,2,3,0;gffffffffffff;v1;v5;");
        Due.fill(x, 0, 0, 0, 4);
        Due.is("FORCE 1", 0, x.who(0, 0, 1, 1));
        Due.is("FORCE 5", 2 + 8, x.who(1, 0, 1, 1));
    }

    private static void seenRefused() {
        HoopLane x = new HoopLane();
        Due.is("seen, no LANE", Due.STATE, x.seen(-1, 0, 0, 9));
        Due.read(x, "h1,2,1,1;gffff;v1;");
        Due.fill(x, 0, 0, 1, 2, 3, 4, 5, 6, 7, 8, 9);
        Due.is("ROW -1", Due.BAD, x.seen(-1, 0, 1, 0));
        Due.is("ROW 8", Due.BAD, x.seen(8, 0, 1, 0));
        Due.is("n 0", Due.BAD, x.seen(0, 0, 0, 0));
        Due.is("n 9", Due.BAD, x.seen(0, 0, 9, 0));
        Due.is("what -1", Due.BAD, x.seen(0, 0, 1, -1));
        Due.is("what 2", Due.BAD, x.seen(0, 0, 1, 2));
        Due.is("NULL ahead of PLACE", Due.NULL, x.seen(1, -1, 1, 0));
        Due.is("i -1", Due.PLACE, x.seen(0, -1, 1, 0));
        Due.is("beyond", Due.PLACE, x.seen(0, 2, 8, 0));
        x.moment(-1);
        Due.is("DOWN, ahead of NULL", Due.STATE, x.seen(1, 0, 1, 0));
        Due.is("BAD ahead of DOWN", Due.BAD, x.seen(1, 0, 9, 0));
        x.setUp(3, 5, 0);
        x.moment(-1);
        Due.is("HOME, ahead of PLACE", Due.STATE, x.seen(0, -1, 1, 1));
    }

    private static void whoRefused() {
        HoopLane x = new HoopLane();
        Due.is("who, no LANE", Due.BAD, x.who(0, 0, 0, 1));
        Due.read(x, "h1,2,1,1;gffff;v1;");
        Due.fill(x, 0, 0, 1, 2, 3, 4, 5, 6, 7, 8, 9);
        Due.is("TAP -1", Due.BAD, x.who(-1, 0, 0, 1));
        Due.is("TAP 1", Due.BAD, x.who(1, 0, 0, 1));
        Due.is("ROW -1", Due.BAD, x.who(0, -1, 0, 1));
        Due.is("ROW 8", Due.BAD, x.who(0, 8, 0, 1));
        Due.is("n 0", Due.BAD, x.who(0, 0, 0, 0));
        Due.is("n 9", Due.BAD, x.who(0, 0, 0, 9));
        Due.is("NULL ahead of PLACE", Due.NULL, x.who(0, 1, -1, 1));
        Due.is("i -1", Due.PLACE, x.who(0, 0, -1, 1));
        Due.is("beyond", Due.PLACE, x.who(0, 0, 2, 8));
        x.moment(-1);
        Due.is("DOWN, ahead of NULL", Due.STATE, x.who(0, 1, 0, 1));
        Due.is("BAD ahead of DOWN", Due.BAD, x.who(1, 1, 0, 1));
        x.setUp(3, 5, 0);
        x.moment(-1);
        Due.is("HOME, ahead of PLACE", Due.STATE, x.who(0, 0, -1, 1));
    }

    private static void theLastRow() {
        HoopLane x = Due.told("h9,2,1,1;gffffffff;v1;");
        Due.fill(x, 7, 0, 0, 4, 7);
        Due.is("copy(7, 0, 7, 0, 3)", 3, x.copy(7, 0, 7, 0, 3));
        Due.is("plan(7, 0, 1, 0)", 1, x.plan(7, 0, 1, 0));
        Due.is("seen(7, 1, 2, 0)", 512, x.seen(7, 1, 2, 0));
        Due.is("who(0, 7, 1, 1)", 2 + 4 + 8, x.who(0, 7, 1, 1));
        Due.is("miss(7, 0, 1, 5, 1)", 1, x.miss(7, 0, 1, 5, 1));
    }

    /** The least and the most that YARD, PACE and LEAN can be. */
    private static void theEnds() {
        HoopLane x = Due.told("h5,2,5,0;gff;");
        x.setUp(1, 1, -5);
        Due.is("on the last YARD", 0, x.fewest(0));
        x.setUp(0, 2, 5);
        Due.is("it goes DOWN by its LEAN", Due.NONE, x.fewest(0));
        x.setUp(0, 3, -5);
        Due.is("HOME at once", 1, x.soonest(0));
        Due.read(x, "h5,2,5,0;gf;");
        x.setUp(0, 1, -5);
        Due.is("the least of all", 0, x.fewest(0));
        Due.read(x, "h5,2,5,0;gffffffffffffffffffffffff;");
        x.setUp(23, 9, 5);
        Due.is("the most of all", 0, x.fewest(0));
    }

    private static void falls() {
        HoopLane x = new HoopLane();
        Due.is("falls, no LANE", Due.STATE, x.falls());
        Due.is("by no TAP", 2, Due.told("h1,2,1,1;gfff;v3;").falls());
        Due.is("later", 4, Due.told("h2,2,1,1;gfff;").falls());
        Due.is("sooner by a TAP", 2 + 4, Due.told("h2,2,1,1;gfff;b1;").falls());
        Due.is("nowhere", 0, Due.told("h9,2,1,0;gfff;v3;").falls());
        Due.is("at the last YARD", 1 << 23, lastYard().falls());
        Due.read(x, "h2,2,1,1;gfff;b1;");
        Due.is("ahead of it", 2 + 4, x.falls());
        x.moment(0);
        Due.is("DOWN", 0, x.falls());
        x.setUp(2, 9, 0);
        x.moment(0);
        Due.is("HOME", 0, x.falls());
    }

    private static HoopLane lastYard() {
        HoopLane x = Due.told("h2,2,1,1;gffffffffffffffffffffffff;");
        x.setUp(22, 1, 0);
        return x;
    }

    private static void mend(String text, int yard, int many) {
        HoopLane x = Due.told(text);
        Due.is("mend(0) of " + text, yard, x.mend(0));
        Due.is("mend(1) of " + text, many, x.mend(1));
    }

    private static void mend() {
        HoopLane x = new HoopLane();
        Due.is("mend, no LANE", Due.STATE, x.mend(9));
        mend("h5,2,1,0;gffsffff;v1;", 2, 0);
        mend("h5,2,3,0;gffsfsff;", 2, 0);
        mend("h5,2,1,0;gffsfsff;", Due.NONE, Due.NONE);
        // Mended or not, it takes one TAP.
        mend("h5,2,1,0;gffsfsff;v1;", 0, 1);
        mend("h5,2,3,0;gffffsff;", 0, 0);
        mend("h1,2,1,1;gfff;v3;", 0, 1);
        mend("h1,2,1,1;gsssss;", Due.NONE, Due.NONE);
        // One TAP where nothing is mended, none where a stone is, of two that do it the first.
        mend("h5,2,2,0;gffsfsffff;i2;", 2, 0);
        mend("h5,2,1,0;gffffsffs;v1;", 4, 0);
        mend("h1,2,1,1;gffsf;v3;", 2, 1);
        // The YARD next to it.
        mend("h2,2,1,0;gfs;", 1, 0);
        Due.read(x, "h5,2,1,0;gffsfff;v1;");
        Due.is("mend(-1)", Due.BAD, x.mend(-1));
        Due.is("mend(2)", Due.BAD, x.mend(2));
        x.moment(-1);
        Due.is("DOWN", Due.NONE, x.mend(0));
        Due.is("DOWN", Due.NONE, x.mend(1));
        Due.is("the GROUND stays", 4, x.ground(2));
        x.setUp(5, 5, 0);
        x.moment(-1);
        Due.is("HOME", 0, x.mend(0));
        Due.is("HOME", 0, x.mend(1));
    }

    private static void missed(HoopLane x, int i, int n, int p, long above, long below) {
        String call = "miss(0, " + i + ", " + n + ", " + p + ", ";
        Due.is(call + "0)", above, x.miss(0, i, n, p, 0));
        Due.is(call + "1)", below, x.miss(0, i, n, p, 1));
    }

    private static void miss() {
        HoopLane x = Due.told("h1,2,1,1;gfff;v3;");
        Due.fill(x, 0, 2, 0, -1, 0, 0, -1);
        missed(x, 0, 2, 3, 7, 10);
        missed(x, 0, 2, 5, 1, 2);
        missed(x, 0, 2, 0, 1, 1);
        missed(x, 0, 2, 10, 0, 1);
        missed(x, 0, 1, 3, 0, 1);
        missed(x, 2, 2, 3, 7, 10);
        missed(x, 1, 1, 3, 0, 1);
        Due.read(x, "h1,2,1,0;gfff;v3;");
        missed(x, 2, 3, 3, 91, 100);
        missed(x, 2, 2, 5, 3, 4);
        missed(x, 2, 2, 2, 24, 25);
        missed(x, 2, 1, 3, 0, 1);
        missed(x, 0, 2, 3, 7, 10);
        Due.read(x, "h1,2,1,1;grrrrrrrr;v1;");
        Due.fill(x, 0, 0, 0, 0, 0, 0, 0, 0, 0, 0, -1, -1, -1, -1, -1, -1, -1, -1, -1, -1, -1, -1, -1, -1, -1, -1);
        missed(x, 0, 8, 1, 4782969, 10000000);
        missed(x, 0, 8, 3, 823543, 10000000);
        missed(x, 0, 24, 9, 1, 10000000);
        missed(x, 0, 7, 0, 0, 1);
        x.moment(-1);
        missed(x, 0, 8, 1, 0, 1);
        x.setUp(7, 9, 0);
        x.moment(-1);
        missed(x, 0, 8, 1, 1, 1);
        missed(x, 0, 8, 10, 1, 1);
    }

    private static void missRefused() {
        HoopLane x = new HoopLane();
        Due.is("miss, no LANE", Due.STATE, x.miss(-1, 0, 0, 11, 9));
        Due.read(x, "h1,2,1,1;grrrrrrrrrrrr;v1;");
        Due.fill(x, 0, 0, 0, 0, 0, 0, 0, 0, 0, 0, 0, -1, 0, 1, -2);
        Due.is("ROW -1", Due.BAD, x.miss(-1, 0, 1, 5, 0));
        Due.is("ROW 8", Due.BAD, x.miss(8, 0, 1, 5, 0));
        Due.is("n 0", Due.BAD, x.miss(0, 0, 0, 5, 0));
        Due.is("n 25", Due.BAD, x.miss(0, 0, 25, 5, 0));
        Due.is("p -1", Due.BAD, x.miss(0, 0, 1, -1, 0));
        Due.is("p 11", Due.BAD, x.miss(0, 0, 1, 11, 0));
        Due.is("what -1", Due.BAD, x.miss(0, 0, 1, 5, -1));
        Due.is("what 2, ahead of NULL", Due.BAD, x.miss(1, 0, 1, 5, 2));
        Due.is("NULL ahead of PLACE", Due.NULL, x.miss(1, -1, 1, 5, 0));
        Due.is("i -1", Due.PLACE, x.miss(0, -1, 1, 5, 0));
        Due.is("beyond, ahead of its ITEMS", Due.PLACE, x.miss(0, 0, 14, 5, 0));
        Due.is("nine TAPS", Due.BAD, x.miss(0, 0, 9, 5, 0));
        Due.is("nine TAPS and none", Due.BAD, x.miss(0, 0, 10, 5, 1));
        Due.is("eight TAPS and none", 0, x.miss(0, 1, 9, 5, 0));
        Due.is("no such TAP", Due.BAD, x.miss(0, 11, 1, 5, 0));
        Due.is("less than -1", Due.BAD, x.miss(0, 12, 1, 5, 0));
    }

    private static void drawn() {
        HoopLane x = new HoopLane();
        Due.is("drawn, no LANE", Due.STATE, x.drawn(-1, 0, 9));
        // By seed 1: no TAP (7), then TAPS 1, 1, 2, 2, 0.
        Due.read(x, "h5,2,5,0;gffffffffffffffffffffffff;v1;b2;o2;");
        int[] yards = {0, 2, 4, 5, 7, 9, 12};
        for (int n = 0; n < yards.length; n++) {
            Due.is("drawn(" + n + ", 1, 0)", yards[n], x.drawn(n, 1, 0));
            Due.is("drawn(" + n + ", 1, 1)", n, x.drawn(n, 1, 1));
        }
        Due.is("drawn(-1, 1, 0)", Due.BAD, x.drawn(-1, 1, 0));
        Due.is("drawn(41, 1, 0)", Due.BAD, x.drawn(41, 1, 0));
        Due.is("drawn(1, 0, 0)", Due.BAD, x.drawn(1, 0, 0));
        Due.is("drawn(1, 1000000, 0)", Due.BAD, x.drawn(1, 1000000, 0));
        Due.is("drawn(1, 999999, 1)", 1, x.drawn(1, 999999, 1));
        Due.is("drawn(1, 1, -1)", Due.BAD, x.drawn(1, 1, -1));
        Due.is("drawn(1, 1, 2)", Due.BAD, x.drawn(1, 1, 2));
        Due.read(x, "h5,2,5,0;gfff;v1;");
        Due.is("HOME", 3, x.drawn(40, 1, 0));
        Due.is("HOME", 2, x.drawn(40, 1, 1));
        x.moment(-1);
        x.moment(-1);
        Due.is("HOME now", 3, x.drawn(40, 1, 0));
        Due.is("HOME now", 0, x.drawn(40, 1, 1));
        Due.read(x, "h2,2,1,1;gffff;");
        Due.is("DOWN", 2, x.drawn(40, 1, 0));
        Due.is("DOWN", 2, x.drawn(40, 1, 1));
    }

    private static void nothingChanges() {
        HoopLane x = Due.told("h5,1,2,1;gffsfsfwdurff;v1;i2;o3;b1;t1;");
        Due.fill(x, 0, 0, 2, 1, -1, 3, 4);
        x.moment(0);
        x.as(0, 4);
        for (int what = 0; what < 2; what++) {
            x.ahead(9, what);
            x.fewest(what);
            x.soonest(what);
            x.mend(what);
            x.drawn(40, 5, what);
        }
        x.heldFrom();
        x.righted();
        x.falls();
        Due.is("status", 3, x.status());
        x.plan(0, 0, 5, 0);
        x.seen(0, 0, 5, 0);
        x.seen(0, 0, 5, 1);
        x.who(2, 0, 0, 5);
        x.miss(0, 0, 5, 4, 0);
        Due.hoop("as it was", x, 3, 5, -1, 0, 1);
        Due.is("ACTS", 1, x.count(6));
        int[] grounds = {0, 0, 4, 0, 4, 0, 5, 1, 2, 3, 0, 0};
        for (int yard = 0; yard < grounds.length; yard++) {
            Due.is("ground(" + yard + ")", grounds[yard], x.ground(yard));
        }
        Due.is("undo", 0, x.undo());
        Due.hoop("undone", x, 0, 5, -1, 0, 0);
    }
}
