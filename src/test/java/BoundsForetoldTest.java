import java.math.BigInteger;

/** Each sentence on a boundary case: what is foretold without a ROW, promises 16 to 20, 24, 25 and 27. */
public final class BoundsForetoldTest {
    private static final String FLAT = "gffffffffffffffffffffffff;";
    /** PACE 6 upright, DRAG 1: without TAPS it is at 3, 5, 7, 9, 10, and DOWN at 11. */
    private static final String SLOWING = "h6,2,3,1;gffffffffffffff;";

    public static void main(String[] args) {
        nothingChanges();
        aheadMoments();
        aheadYard();
        aheadEnds();
        oneATime();
        fewestOfHome();
        fewestFirst();
        fewestNone();
        soonest();
        soonestFirst();
        held();
        heldNone();
        rightedLeans();
        rightedNone();
        falls();
        fallsNone();
        mendAny();
        mendFirst();
        mendNone();
        run();
        runDraws();
        runTaps();
        runEnds();
        ahead();
        aheadRefused();
        soonestNone();
        fewestRefused();
        soonestRefused();
        heldFromRefused();
        righted();
        rightedRefused();
        fallsTold();
        fallsRefused();
        mendRefused();
        drawn();
        drawnRefused();
        Due.end();
    }

    private static void nothingChanges() {
        Due.says("3", "FORETOLD (nothing changes).");
        Given.answers("ahead(1, 0)", 6, Given::rolling, x -> x.ahead(1, 0));
        Given.answers("ahead(40, 3)", 1, Given::rolling, x -> x.ahead(40, 3));
        Given.answers("fewest(0)", 1, Given::rolling, x -> x.fewest(0));
        Given.answers("soonest(0)", 3, Given::rolling, x -> x.soonest(0));
        Given.answers("heldFrom()", 1, Given::rolling, x -> x.heldFrom());
        Given.answers("righted()", 4, Given::rolling, x -> x.righted());
        Given.answers("plan(2, 0, 3, 0)", 3, Given::rolling, x -> x.plan(2, 0, 3, 0));
        Given.answers("seen(0, 0, 1, 0)", 0, Given::rolling, x -> x.seen(0, 0, 1, 0));
        Given.answers("seen(0, 0, 1, 1)", 0, Given::rolling, x -> x.seen(0, 0, 1, 1));
        Given.answers("who(0, 0, 0, 1)", 0, Given::rolling, x -> x.who(0, 0, 0, 1));
        Given.answers("falls()", 64 + 128 + 256 + 512 + 1024 + 2048 + 4096, Given::rolling, x -> x.falls());
        Given.answers("mend(1)", 1, Given::rolling, x -> x.mend(1));
        Given.answers("miss(2, 0, 3, 5, 1)", 1, Given::rolling, x -> x.miss(2, 0, 3, 5, 1));
        Given.answers("drawn(40, 7, 1)", 7, Given::rolling, x -> x.drawn(40, 7, 1));
    }

    // ---- AHEAD

    private static void ahead(HoopLane x, int n, int... due) {
        for (int what = 0; what < due.length; what++) {
            Due.is("ahead(" + n + ", " + what + ")", due[what], x.ahead(n, what));
        }
    }

    private static void aheadMoments() {
        Due.says("3", "AHEAD by n MOMENTS (0 to 40) without TAPS:");
        HoopLane x = Due.told(SLOWING + "v5;");
        ahead(x, 0, 0, 6, 0, 0);
        ahead(x, 1, 3, 5, 0, 0);
        ahead(x, 2, 5, 4, 0, 0);
        ahead(x, 3, 7, 3, -1, 0);
        ahead(x, 40, 11, 0, -4, 1);
        Due.is("ahead(-1, 0)", Due.BAD, x.ahead(-1, 0));
        Due.is("ahead(41, 0)", Due.BAD, x.ahead(41, 0));
    }

    private static void aheadYard() {
        Due.says("3", "YARD (HOME: how many YARDS there are), PACE, LEAN, whether DOWN (1), HOME (2), neither (0),");
        HoopLane x = Due.told("h9,3,3,0;gfffff;");
        ahead(x, 1, 4, 9, 1, 0);
        ahead(x, 2, 5, 9, 1, 2);
        ahead(Due.told("h2,2,1,0;gfffff;"), 2, 2, 2, -2, 1);
    }

    private static void aheadEnds() {
        Due.says("3", "as it is when it is DOWN or HOME first.");
        HoopLane x = Due.told("h2,2,1,1;gfffff;");
        ahead(x, 1, 1, 1, -1, 0);
        ahead(x, 2, 2, 0, -2, 1);
        ahead(x, 3, 2, 0, -2, 1);
        ahead(x, 40, 2, 0, -2, 1);
        ahead(Due.told("h9,2,3,3;gfffff;"), 40, 5, 6, 0, 2);
        ahead(Given.down(), 0, 6, 0, -2, 1);
        ahead(Given.down(), 40, 6, 0, -2, 1);
        ahead(Given.home(), 0, 13, 9, 0, 2);
        ahead(Given.home(), 40, 13, 9, 0, 2);
    }

    // ---- FEWEST, SOONEST

    private static void fewest(String text, int many, int first) {
        HoopLane x = Due.told(text);
        Due.is("fewest(0) of " + text, many, x.fewest(0));
        Due.is("fewest(1) of " + text, first, x.fewest(1));
    }

    private static void oneATime() {
        Due.says("3", "FEWEST TAPS by which it is HOME (one at most a MOMENT;");
        fewest("h1,2,5,3;gff;v1;", Due.NONE, Due.NONE);
        fewest("h1,2,5,3;gff;v1;v1;", Due.NONE, Due.NONE);
        fewest("h1,2,5,3;gff;v2;", 1, 0);
        // One in each MOMENT but the last, the most that there can be.
        fewest("h1,2,1,1;g" + "r".repeat(24) + ";v1;", 23, 0);
        fewest("h9,2,5,0;" + FLAT + "v5;", 0, Due.NONE);
        // From the least and the most that YARD, PACE, LEAN can be.
        Due.is("of the least", 0, Given.standing("h5,2,5,0;gf;v5;", 0, 1, -5).fewest(0));
        Due.is("of the least, on", 1, Given.standing("h5,2,5,0;gfff;o5;", 0, 1, -5).fewest(0));
        Due.is("of the most", 0, Given.standing("h5,2,5,0;" + FLAT + "v5;", 23, 9, 5).fewest(0));
        Due.is("of the most, on", 0, Given.standing("h5,2,5,0;" + FLAT + "v5;", 0, 9, 5).fewest(0));
    }

    private static void fewestOfHome() {
        Due.says("3", "0, if it is HOME): how many;");
        Due.is("fewest(0)", 0, Given.home().fewest(0));
        Due.is("fewest(1)", Due.NONE, Given.home().fewest(1));
        HoopLane x = Due.told("h1,2,5,3;gff;v2;");
        x.moment(0);
        Due.is("by a TAP", 0, x.fewest(0));
    }

    private static void fewestFirst() {
        Due.says("3", "what is done in this MOMENT (NONE: no TAP) by which so few do "
            + "(no TAP ahead of all, then by numbers); NONE.");
        fewest("h1,2,1,1;gfff;v3;v3;", 1, 0);
        fewest("h1,2,1,1;gfff;v3;v5;o4;", 1, 0);
        fewest("h1,2,1,1;gfff;t1;v3;v3;", 1, 1);
        fewest("h1,2,1,1;gfff;b1;t1;b2;t2;v3;", 1, 4);
        // It can wait, and do it in the next MOMENT.
        fewest("h1,2,1,0;gfff;v3;", 1, Due.NONE);
        // By TAP 0 now it would take two.
        fewest("h1,2,1,1;gfff;v1;v3;", 1, 1);
    }

    private static void fewestNone() {
        Due.says("Promise 17", "FEWEST TAPS: how many (what = 0), what first (1; NONE); NONE.");
        fewest(SLOWING, Due.NONE, Due.NONE);
        fewest(SLOWING + "b1;t1;", Due.NONE, Due.NONE);
        fewest("h6,2,3,1;gfffffffff;", 0, Due.NONE);
        Due.is("fewest(0) DOWN", Due.NONE, Given.down().fewest(0));
        Due.is("fewest(1) DOWN", Due.NONE, Given.down().fewest(1));
        fewest("h5,4,1,0;gfffff;b1;i1;", 1, 1);
        fewest("h5,4,1,0;gff;b1;i1;", 0, Due.NONE);
    }

    private static void soonest(String text, int many, int first) {
        HoopLane x = Due.told(text);
        Due.is("soonest(0) of " + text, many, x.soonest(0));
        Due.is("soonest(1) of " + text, first, x.soonest(1));
    }

    private static void soonest() {
        Due.says("3", "SOONEST: the fewest MOMENTS by which it is HOME, whatever TAPS (0, if it is);");
        Due.is("soonest(0) HOME", 0, Given.home().soonest(0));
        Due.is("soonest(1) HOME", Due.NONE, Given.home().soonest(1));
        soonest("h1,2,5,0;gf;v5;", 1, Due.NONE);
        soonest("h5,2,5,0;" + FLAT, 12, Due.NONE);
        soonest("h5,2,5,0;" + FLAT + "v5;", 6, 0);
        soonest("h1,2,1,1;g" + "r".repeat(24) + ";v1;", 24, 0);
        // Fewer MOMENTS by more TAPS than are needed.
        soonest("h3,2,5,0;gffffff;v3;", 2, 0);
        fewest("h3,2,5,0;gffffff;v3;", 0, Due.NONE);
    }

    private static void soonestFirst() {
        Due.says("3", "what is done first, likewise; NONE.");
        soonest("h5,2,5,0;gffff;v1;v1;", 2, Due.NONE);
        soonest("h5,2,5,0;gfffffff;v4;v4;", 2, 0);
        soonest("h5,2,5,0;gffffff;v4;v4;", 2, Due.NONE);
        soonest("h5,2,5,0;gfffffff;b1;v4;o4;", 2, 1);
        soonest("h6,2,1,0;gffffsfff;v3;o3;", 2, 1);
        soonest(SLOWING, Due.NONE, Due.NONE);
        Due.is("soonest(0) DOWN", Due.NONE, Given.down().soonest(0));
        Due.is("soonest(1) DOWN", Due.NONE, Given.down().soonest(1));
    }

    // ---- HELD, RIGHTED

    private static void held() {
        Due.says("3", "HELD: the least PACE (1 to 9) by which, all else as it is, it could be HOME; NONE.");
        Due.is("1", 1, Due.told("h9,2,1,1;gfff;v3;").heldFrom());
        Due.is("1, of the last YARD", 1, Given.standing("h9,2,1,3;" + FLAT, 23, 9, 1).heldFrom());
        Due.is("3", 3, Due.told("h1,2,1,1;gfff;").heldFrom());
        Due.is("5, by the LEAN that it has", 5, Due.told("h1,3,1,1;gfff;").heldFrom());
        Due.is("9", 9, Due.told("h1,2,1,3;gffffffff;").heldFrom());
        Due.is("by no PACE", Due.NONE, Due.told("h9,2,1,3;gfffffffffffff;").heldFrom());
        // By 9 it comes to 4, 7, and DOWN at 9 of 10; one more would hold it.
        Due.is("9 is the most", Due.NONE, Due.told("h9,2,1,3;gffffffffff;").heldFrom());
        // By each PACE it falls on the stones next to it, or on that at 8; from YARD 1 on it would not.
        Due.is("not from the next YARD", Due.NONE, Due.told("h9,2,1,0;gfsssffffsf;v5;").heldFrom());
        Due.is("from where it is", 3, Given.standing("h1,2,1,3;gffffffff;", 6, 1, 0).heldFrom());
        // Its LEAN is beyond HOLDS, as read: it is held where it is HOME at once.
        Due.is("LEAN beyond HOLDS", 6, Due.told("h1,4,1,0;gfff;").heldFrom());
    }

    private static void heldNone() {
        Due.says("Promise 19", "HELD; NONE: it is DOWN, HOME, too.");
        HoopLane x = Given.standing("h5,2,1,0;gfff;", 2, 9, 0);
        Due.is("neither", 1, x.heldFrom());
        x.moment(-1);
        Due.is("HOME", Due.NONE, x.heldFrom());
        x.setUp(0, 2, 1);
        x.moment(-1);
        Due.is("it is DOWN", 1, x.hoop(3));
        Due.is("DOWN", Due.NONE, x.heldFrom());
        x.undo();
        Due.is("not DOWN", 4, x.heldFrom());
    }

    private static void rightedLeans() {
        Due.says("3", "RIGHTED: how many LEANS of 0 to HOLDS (0, too; none below 0) by which, all else as it is, "
            + "it could be HOME;");
        for (int holds = 1; holds <= 5; holds++) {
            Due.is("all of HOLDS " + holds, holds + 1, Due.told("h4,2," + holds + ",0;gffff;b1;").righted());
        }
        Due.is("0 alone", 1, Due.told("h4,2,2,0;gffsf;b1;").righted());
        Due.is("whatever LEAN it has", 1, Due.told("h4,0,2,0;gffsf;b1;").righted());
        Due.is("none", 0, Due.told("h1,2,2,1;gffff;b1;").righted());
        // Of 0 a slow one leans to the other side by each YARD: HOLDS 1 hold it no more.
        Due.is("not HOLDS", 2, Due.told("h3,2,2,0;gffff;b1;").righted());
    }

    private static void rightedNone() {
        Due.says("3", "NONE: it has no TAPS, it is DOWN, HOME.");
        Due.is("no TAPS", Due.NONE, Due.told("h9,2,5,0;gfff;").righted());
        Due.is("a TAP", 6, Due.told("h9,2,5,0;gfff;b1;").righted());
        Due.is("DOWN", Due.NONE, Given.down().righted());
        Due.is("HOME", Due.NONE, Given.home().righted());
    }

    // ---- FALLS, MEND

    private static void falls() {
        Due.says("3", "FALLS: YARDS (bits) at which it can go DOWN from now on, by some TAPS");
        Due.is("at the next YARD", 1 << 1, Due.told("h1,2,1,1;gfff;v3;").falls());
        Due.is("by a TAP, too", 1 << 1 | 1 << 2, Due.told("h2,2,1,1;gfff;b1;").falls());
        Due.is("without one", 1 << 2, Due.told("h2,2,1,1;gfff;").falls());
        Due.is("at the last YARD that there can be", 1 << 23, Given.standing("h2,2,1,1;" + FLAT, 22, 1, 0).falls());
        Due.is("nowhere", 0, Due.told("h9,2,1,0;gfff;v3;").falls());
        Due.is("nowhere, of the last YARD", 0, Given.standing("h2,2,1,1;" + FLAT, 23, 1, 0).falls());
        HoopLane x = Due.told("h2,2,1,1;gfff;b1;");
        Due.is("from YARD 0 on", 1 << 1 | 1 << 2, x.falls());
        x.moment(-1);
        Due.is("from now on", 1 << 2, x.falls());
    }

    private static void fallsNone() {
        Due.says("3", "(none, if it is DOWN, HOME).");
        HoopLane x = Due.told("h2,2,1,1;gffffff;b1;");
        Due.is("not DOWN", 1 << 1 | 1 << 2, x.falls());
        x.moment(0);
        Due.is("it is DOWN", 1, x.hoop(3));
        Due.is("DOWN", 0, x.falls());
        Due.is("DOWN", 0, Given.down().falls());
        Due.is("HOME", 0, Given.home().falls());
    }

    private static void mend(String text, int yard, int many) {
        HoopLane x = Due.told(text);
        Due.is("mend(0) of " + text, yard, x.mend(0));
        Due.is("mend(1) of " + text, many, x.mend(1));
    }

    private static void mendAny() {
        Due.says("3", "MEND: the YARD (any; one that is flat, too) whose GROUND, were it flat, lets it be HOME by "
            + "fewest TAPS,");
        mend("h5,2,1,0;gffsffff;v1;", 2, 0);
        mend("h2,2,1,0;gfs;", 1, 0);
        // Four TAPS, where by none it was HOME; two, where it was by three.
        mend("h1,2,3,1;guuffr;v1;", 1, 4);
        mend("h3,2,1,1;gfsuffsf;i2;", 2, 2);
        fewest("h3,2,1,1;gfsuffsf;i2;", 3, 0);
        // None does better: then YARD 0 as any, that is flat or not.
        mend("h5,2,1,0;gffffff;", 0, 0);
        mend("h5,2,1,0;gsfffff;", 0, 0);
        mend("h1,2,1,1;gfff;v3;", 0, 1);
        HoopLane x = Due.told("h1,2,1,0;g" + "f".repeat(23) + "s;");
        x.setUp(22, 1, 0);
        Due.is("mend(0), the last YARD that there can be", 23, x.mend(0));
        Due.is("mend(1)", 0, x.mend(1));
        // Each of 24 YARDS is looked at, and none does better.
        mend("h1,2,1,1;g" + "r".repeat(24) + ";v1;", 0, 23);
        mend("h1,2,1,1;g" + "f".repeat(24) + ";v1;", Due.NONE, Due.NONE);
        Due.is("mend(0) HOME", 0, Given.home().mend(0));
        Due.is("mend(1) HOME", 0, Given.home().mend(1));
    }

    private static void mendFirst() {
        Due.says("3", "of several the first; how many; NONE.");
        mend("h5,2,2,0;gffsfsffff;i2;", 2, 0);
        // Of these two stones it meets the first alone.
        mend("h5,2,1,0;gffffsffs;v1;", 4, 0);
        mend("h1,2,1,1;gffsf;v3;", 2, 1);
        mend("h5,2,1,0;gffsfsff;v1;", 0, 1);
        // Two stones too many.
        mend("h5,2,1,0;gffsfsfsff;", Due.NONE, Due.NONE);
    }

    private static void mendNone() {
        Due.says("Promise 25", "MEND: the YARD (what = 0), how many (1); NONE.");
        mend("h5,2,1,0;gffsfsff;", Due.NONE, Due.NONE);
        mend("h1,2,1,1;gsssss;", Due.NONE, Due.NONE);
        Due.is("mend(0) DOWN", Due.NONE, Given.down().mend(0));
        Due.is("mend(1) DOWN", Due.NONE, Given.down().mend(1));
        mend("h5,2,1,0;gffsffff;", 2, 0);
    }

    // ---- RUN

    private static void run() {
        Due.says("3", "RUN of n (0 to 40) by a SEED (X at first):");
        HoopLane x = Due.told("h5,2,5,0;" + FLAT + "v1;b2;o2;");
        Due.is("none: YARD", 0, x.drawn(0, 1, 0));
        Due.is("none: how many", 0, x.drawn(0, 1, 1));
        Due.is("one: YARD", 2, x.drawn(1, 1, 0));
        Due.is("one: how many", 1, x.drawn(1, 1, 1));
        Due.is("40: YARD", 24, x.drawn(40, 1, 0));
        Due.is("drawn(-1, 1, 0)", Due.BAD, x.drawn(-1, 1, 0));
        Due.is("drawn(41, 1, 0)", Due.BAD, x.drawn(41, 1, 0));
    }

    /** The same by MOMENTS, the draws by numbers that have no bound. */
    private static void sameByMoments(String text, int seed) {
        HoopLane x = Due.told(text);
        HoopLane y = Due.told(text);
        BigInteger draw = BigInteger.valueOf(seed);
        for (int n = 1; n <= 24; n++) {
            draw = draw.multiply(BigInteger.valueOf(16807)).mod(BigInteger.valueOf(2147483647));
            int tap = draw.mod(BigInteger.valueOf(8)).intValue();
            y.moment(tap < y.count(2) ? tap : -1);
            String call = "drawn(" + n + ", " + seed + ", ";
            Due.is(call + "0) of " + text, y.hoop(0), x.drawn(n, seed, 0));
            Due.is(call + "1) of " + text, y.hoop(4), x.drawn(n, seed, 1));
        }
    }

    private static void runDraws() {
        Due.says("3", "in each MOMENT X becomes the rest of (X times 16807) by 2147483647;");
        int[] seeds = {1, 2, 7, 127773, 127774, 127775, 500000, 999998, 999999};
        for (int seed : seeds) {
            sameByMoments("h5,2,5,0;g" + "fffr".repeat(6) + ";v1;b2;o2;t1;i3;", seed);
        }
    }

    private static void runTaps() {
        Due.says("3", "there is the TAP that is the rest of X by 8, if there is one;");
        String[] taps = {"", "v1;", "v1;b1;", "v1;b1;o1;", "v1;b1;o1;t1;", "v1;b1;o1;t1;i1;"};
        for (String these : taps) {
            sameByMoments("h5,2,5,0;g" + "fffr".repeat(6) + ";" + these, 3);
            sameByMoments("h5,2,5,0;g" + "fffr".repeat(6) + ";" + these, 11);
        }
        // By SEED 1 it is 7 first, and then 1.
        HoopLane x = Due.told("h5,2,5,0;" + FLAT + "v5;v5;v5;v5;v5;");
        Due.is("there is no TAP 7", 2, x.drawn(1, 1, 0));
        Due.is("TAP 1", 6, x.drawn(2, 1, 0));
    }

    private static void runEnds() {
        Due.says("3", "till it is DOWN, HOME: YARD; how many MOMENTS.");
        HoopLane x = Due.told("h5,2,5,0;gfff;v1;");
        Due.is("HOME: YARD", 3, x.drawn(40, 1, 0));
        Due.is("HOME: how many", 2, x.drawn(40, 1, 1));
        Due.is("HOME just now: how many", 2, x.drawn(2, 1, 1));
        x = Due.told("h2,2,1,1;gffff;");
        Due.is("DOWN: YARD", 2, x.drawn(40, 1, 0));
        Due.is("DOWN: how many", 2, x.drawn(40, 1, 1));
        Due.is("DOWN already: YARD", 6, Given.down().drawn(40, 1, 0));
        Due.is("DOWN already: how many", 0, Given.down().drawn(40, 1, 1));
        Due.is("HOME already: YARD", 13, Given.home().drawn(40, 1, 0));
        Due.is("HOME already: how many", 0, Given.home().drawn(40, 1, 1));
    }

    // ---- the promises

    private static void ahead() {
        Due.says("Promise 16", "AHEAD: 0 YARD, 1 PACE, 2 LEAN, 3 DOWN, HOME.");
        ahead(Due.told("h8,1,3,2;gffffffff;"), 1, 3, 6, -1, 0);
        ahead(Due.told("h8,1,3,2;gffffffff;"), 3, 8, 4, -1, 2);
    }

    private static void aheadRefused() {
        Due.says("Promise 16", "BAD; STATE: no LANE (ahead of BAD).");
        Given.refused("ahead(-1, 0)", Due.BAD, Given::rolling, x -> x.ahead(-1, 0));
        Given.refused("ahead(41, 0)", Due.BAD, Given::rolling, x -> x.ahead(41, 0));
        Given.refused("ahead(0, -1)", Due.BAD, Given::rolling, x -> x.ahead(0, -1));
        Given.refused("ahead(0, 4)", Due.BAD, Given::rolling, x -> x.ahead(0, 4));
        Given.refused("ahead(41, 0) HOME", Due.BAD, Given::home, x -> x.ahead(41, 0));
        Given.refused("ahead(0, 0), no LANE", Due.STATE, Given::noLane, x -> x.ahead(0, 0));
        Given.refused("ahead(41, 4), no LANE", Due.STATE, Given::noLane, x -> x.ahead(41, 4));
    }

    private static void soonestNone() {
        Due.says("Promise 18", "SOONEST: how many (what = 0), what first (1; NONE); NONE.");
        soonest("h5,2,5,0;gff;", 1, Due.NONE);
        soonest("h2,2,5,0;gff;v1;", 1, 0);
        soonest(SLOWING + "b1;", Due.NONE, Due.NONE);
    }

    private static void fewestRefused() {
        Due.says("Promise 17", "BAD; STATE: no LANE (ahead of BAD).");
        Given.refused("fewest(-1)", Due.BAD, Given::rolling, x -> x.fewest(-1));
        Given.refused("fewest(2)", Due.BAD, Given::rolling, x -> x.fewest(2));
        Given.refused("fewest(2) DOWN", Due.BAD, Given::down, x -> x.fewest(2));
        Given.refused("fewest(0), no LANE", Due.STATE, Given::noLane, x -> x.fewest(0));
        Given.refused("fewest(2), no LANE", Due.STATE, Given::noLane, x -> x.fewest(2));
    }

    private static void soonestRefused() {
        Due.says("Promise 18", "BAD; STATE: no LANE (ahead of BAD).");
        Given.refused("soonest(-1)", Due.BAD, Given::rolling, x -> x.soonest(-1));
        Given.refused("soonest(2)", Due.BAD, Given::rolling, x -> x.soonest(2));
        Given.refused("soonest(2) HOME", Due.BAD, Given::home, x -> x.soonest(2));
        Given.refused("soonest(1), no LANE", Due.STATE, Given::noLane, x -> x.soonest(1));
        Given.refused("soonest(-1), no LANE", Due.STATE, Given::noLane, x -> x.soonest(-1));
    }

    private static void heldFromRefused() {
        Due.says("Promise 19", "STATE: no LANE.");
        Given.refused("heldFrom(), no LANE", Due.STATE, Given::noLane, x -> x.heldFrom());
        Given.refused("heldFrom(), a new object", Due.STATE, HoopLane::new, x -> x.heldFrom());
    }

    private static void righted() {
        Due.says("Promise 20", "RIGHTED; NONE.");
        Due.is("rolling", 4, Given.rolling().righted());
        Due.is("no TAPS", Due.NONE, Due.told("h5,2,5,0;gff;").righted());
        Due.is("none is not NONE", 0, Due.told("h1,2,5,1;gfff;b1;").righted());
    }

    private static void rightedRefused() {
        Due.says("Promise 20", "STATE: no LANE.");
        Given.refused("righted(), no LANE", Due.STATE, Given::noLane, x -> x.righted());
        Given.refused("righted(), a new object", Due.STATE, HoopLane::new, x -> x.righted());
    }

    private static void fallsTold() {
        Due.says("Promise 24", "FALLS.");
        Due.is("two YARDS", 1 << 1 | 1 << 2, Due.told("h2,2,1,1;gfff;b1;").falls());
    }

    private static void fallsRefused() {
        Due.says("Promise 24", "STATE: no LANE.");
        Given.refused("falls(), no LANE", Due.STATE, Given::noLane, x -> x.falls());
        Given.refused("falls(), a new object", Due.STATE, HoopLane::new, x -> x.falls());
    }

    private static void mendRefused() {
        Due.says("Promise 25", "BAD; STATE: no LANE (ahead of BAD).");
        Given.refused("mend(-1)", Due.BAD, Given::rolling, x -> x.mend(-1));
        Given.refused("mend(2)", Due.BAD, Given::rolling, x -> x.mend(2));
        Given.refused("mend(2) DOWN", Due.BAD, Given::down, x -> x.mend(2));
        Given.refused("mend(0), no LANE", Due.STATE, Given::noLane, x -> x.mend(0));
        Given.refused("mend(2), no LANE", Due.STATE, Given::noLane, x -> x.mend(2));
    }

    private static void drawn() {
        Due.says("Promise 27", "RUN by a SEED (1 to 999999): YARD (what = 0), how many (1).");
        HoopLane x = Due.told("h5,2,5,0;" + FLAT + "v1;b2;o2;");
        Due.is("drawn(6, 1, 0)", 12, x.drawn(6, 1, 0));
        Due.is("drawn(6, 1, 1)", 6, x.drawn(6, 1, 1));
        Due.is("drawn(1, 999999, 0), TAP 0", 3, x.drawn(1, 999999, 0));
        Due.is("drawn(1, 0, 0)", Due.BAD, x.drawn(1, 0, 0));
        Due.is("drawn(1, 1000000, 0)", Due.BAD, x.drawn(1, 1000000, 0));
    }

    private static void drawnRefused() {
        Due.says("Promise 27", "BAD; STATE: no LANE (ahead of BAD).");
        Given.refused("drawn(-1, 1, 0)", Due.BAD, Given::rolling, x -> x.drawn(-1, 1, 0));
        Given.refused("drawn(41, 1, 0)", Due.BAD, Given::rolling, x -> x.drawn(41, 1, 0));
        Given.refused("drawn(1, 0, 0)", Due.BAD, Given::rolling, x -> x.drawn(1, 0, 0));
        Given.refused("drawn(1, -1, 0)", Due.BAD, Given::rolling, x -> x.drawn(1, -1, 0));
        Given.refused("drawn(1, 1000000, 0)", Due.BAD, Given::rolling, x -> x.drawn(1, 1000000, 0));
        Given.refused("drawn(1, 1, -1)", Due.BAD, Given::rolling, x -> x.drawn(1, 1, -1));
        Given.refused("drawn(1, 1, 2)", Due.BAD, Given::rolling, x -> x.drawn(1, 1, 2));
        Given.refused("drawn(1, 1, 2) HOME", Due.BAD, Given::home, x -> x.drawn(1, 1, 2));
        Given.refused("drawn(1, 1, 0), no LANE", Due.STATE, Given::noLane, x -> x.drawn(1, 1, 0));
        Given.refused("drawn(41, 0, 2), no LANE", Due.STATE, Given::noLane, x -> x.drawn(41, 0, 2));
    }
}
