/** Promises 9 to 15, 28 and 29: what is done, undone, kept. */
public final class MomentsTest {
    public static void main(String[] args) {
        taps();
        grounds();
        slow();
        ends();
        refused();
        full();
        setUp();
        lay();
        undo();
        images();
        Due.end();
    }

    /** One MOMENT, the hoop at YARD 0, on YARDS of one GROUND. */
    private static void once(String law, char ground, String tap, int... due) {
        HoopLane x = Due.told(law + "g" + String.valueOf(ground).repeat(12) + ";" + tap);
        int number = tap.isEmpty() ? -1 : 0;
        Due.is("moment on " + law + ground + tap, due[0], x.moment(number));
        Due.hoop(law + ground + tap, x, due);
    }

    private static void taps() {
        once("h5,3,5,0;", 'f', "", 2, 5, 1, 0, 1);
        once("h5,3,5,0;", 'f', "v3;", 3, 8, 1, 0, 1);
        once("h8,3,5,0;", 'f', "v5;", 4, 9, 1, 0, 1);
        once("h5,4,5,0;", 'f', "i1;", 2, 5, 1, 0, 1);
        once("h5,4,5,0;", 'f', "i3;", 3, 6, 0, 0, 1);
        once("h5,0,5,0;", 'f', "i1;", 2, 5, -1, 0, 1);
        once("h5,0,5,0;", 'f', "i5;", 3, 7, 0, 0, 1);
        once("h5,2,5,0;", 'f', "i4;", 3, 7, 0, 0, 1);
        once("h8,3,5,0;", 'f', "i5;", 4, 9, 0, 0, 1);
        once("h5,3,5,0;", 'f', "o2;", 3, 7, 1, 0, 1);
        once("h9,3,5,0;", 'f', "b5;", 2, 4, 1, 0, 1);
        once("h3,3,5,0;", 'f', "b5;", 1, 0, 2, 1, 1);
        once("h9,0,5,0;", 'f', "t5;", 2, 4, 0, 0, 1);
    }

    private static void grounds() {
        once("h5,3,5,1;", 'd', "", 2, 6, 1, 0, 1);
        once("h9,3,5,1;", 'd', "", 4, 8, 1, 0, 1);
        once("h6,3,5,1;", 'u', "", 3, 4, 1, 0, 1);
        once("h3,3,5,0;", 'u', "b3;", 1, 0, 2, 1, 1);
        once("h6,4,5,1;", 'r', "", 3, 5, 0, 0, 1);
        once("h6,4,5,1;", 's', "", 3, 5, 4, 0, 1);
        once("h6,0,5,1;", 's', "", 3, 5, -4, 0, 1);
        once("h6,2,5,1;", 's', "", 3, 5, 2, 0, 1);
        once("h6,3,5,0;", 'w', "", 3, 5, 2, 0, 1);
        once("h6,1,5,0;", 'w', "", 3, 5, -2, 0, 1);
        once("h6,2,5,0;", 'w', "", 3, 5, -1, 0, 1);
        once("h6,2,5,0;", 's', "o1;", 3, 7, 0, 0, 1);
        once("h6,2,5,1;", 'd', "o1;", 3, 6, 0, 0, 1);
        once("h3,2,5,1;", 'w', "o1;", 2, 3, 1, 0, 1);
        once("h5,2,5,3;", 's', "", 2, 2, 3, 0, 1);
        once("h5,0,5,3;", 'w', "", 2, 1, -4, 0, 1);
    }

    private static void slow() {
        once("h3,2,5,0;", 'f', "", 2, 3, 1, 0, 1);
        once("h2,2,5,0;", 'f', "", 1, 2, -1, 0, 1);
        once("h3,3,5,0;", 'f', "", 2, 3, 2, 0, 1);
        once("h3,1,5,0;", 'f', "", 2, 3, -2, 0, 1);
        once("h4,2,5,0;", 'f', "", 2, 4, 0, 0, 1);
        once("h4,2,5,1;", 'f', "", 2, 3, 1, 0, 1);
        once("h2,1,5,0;", 'r', "", 1, 2, -1, 0, 1);
    }

    private static void ends() {
        once("h5,4,1,0;", 'f', "", 2, 5, 2, 1, 1);
        once("h5,0,1,0;", 'f', "", 2, 5, -2, 1, 1);
        once("h5,3,1,0;", 'f', "", 2, 5, 1, 0, 1);
        once("h5,4,3,0;", 's', "", 2, 5, 4, 1, 1);
        once("h5,0,3,0;", 's', "", 2, 5, -4, 1, 1);
        once("h5,4,4,0;", 's', "", 2, 5, 4, 0, 1);
        once("h5,0,4,0;", 's', "", 2, 5, -4, 0, 1);
        once("h3,2,5,3;", 'f', "", 2, 0, 1, 1, 1);
        HoopLane x = Due.told("h3,0,1,3;gs;b5;");
        Due.hoop("LEAN beyond HOLDS as read", x, 0, 3, -2, 0, 0);
        Due.is("moment(0)", 1, x.moment(0));
        Due.hoop("HOME, nothing more is done", x, 1, 0, -2, 2, 1);
        x = Due.told("h9,2,1,3;gfff;");
        Due.is("beyond the YARDS", 3, x.moment(-1));
        Due.hoop("HOME is how many YARDS there are", x, 3, 9, 0, 2, 1);
        x = Due.told("h6,2,1,3;gfff;");
        Due.is("at the YARDS' end", 3, x.moment(-1));
        Due.hoop("HOME", x, 3, 6, 0, 2, 1);
    }

    private static void refused() {
        HoopLane x = new HoopLane();
        Due.is("moment, no LANE", Due.STATE, x.moment(-2));
        Due.is("setUp, no LANE", Due.STATE, x.setUp(-1, 0, 9));
        Due.is("lay, no LANE", Due.STATE, x.lay(-1, 9));
        Due.is("hoop, no LANE", Due.STATE, x.hoop(9));
        Due.is("ground, no LANE", Due.BAD, x.ground(0));
        Due.is("force, no LANE", Due.BAD, x.force(0));
        Due.read(x, "h3,2,1,3;gffff;v1;b1;");
        Due.is("moment(-2)", Due.BAD, x.moment(-2));
        Due.is("moment(2)", Due.BAD, x.moment(2));
        Due.is("hoop(-1)", Due.BAD, x.hoop(-1));
        Due.is("hoop(5)", Due.BAD, x.hoop(5));
        Due.is("ground(-1)", Due.BAD, x.ground(-1));
        Due.is("ground(4)", Due.BAD, x.ground(4));
        Due.is("ground(3)", 0, x.ground(3));
        Due.is("force(-1)", Due.BAD, x.force(-1));
        Due.is("force(2)", Due.BAD, x.force(2));
        Due.is("force(1)", 1, x.force(1));
        Due.is("no ACT", 0, x.count(6));
        Due.is("moment(-1)", 2, x.moment(-1));
        Due.hoop("DOWN", x, 2, 0, 1, 1, 1);
        Due.is("moment, DOWN", Due.STATE, x.moment(0));
        Due.is("BAD ahead of DOWN", Due.BAD, x.moment(2));
        x.setUp(3, 5, 0);
        Due.is("moment(-1)", 4, x.moment(-1));
        Due.is("moment, HOME", Due.STATE, x.moment(-1));
        Due.is("BAD ahead of HOME", Due.BAD, x.moment(2));
        Due.is("ACTS", 3, x.count(6));
    }

    /** MOMENT 999 comes after more calls than are promised: tested all the same, as the document names it. */
    private static void full() {
        HoopLane x = Due.told("h1,2,1,0;grrrrrrrrrrrr;");
        for (int k = 0; k < 999; k++) {
            if (k % 11 == 0) {
                x.setUp(0, 1, 0);
            }
            Due.is("moment " + k, k % 11 + 1, x.moment(-1));
        }
        Due.hoop("at MOMENT 999", x, 9, 1, -1, 0, 999);
        Due.is("BAD ahead of FULL", Due.BAD, x.moment(0));
        Due.is("moment, FULL", Due.FULL, x.moment(-1));
        Due.hoop("as it was", x, 9, 1, -1, 0, 999);
    }

    private static void setUp() {
        HoopLane x = Due.told("h5,2,2,0;gffffff;");
        x.moment(-1);
        Due.is("setUp(5, 9, -2)", 2, x.setUp(5, 9, -2));
        Due.hoop("set up", x, 5, 9, -2, 0, 1);
        Due.is("setUp(0, 1, 2)", 5, x.setUp(0, 1, 2));
        Due.hoop("set up", x, 0, 1, 2, 0, 1);
        Due.is("setUp(-1, 1, 0)", Due.BAD, x.setUp(-1, 1, 0));
        Due.is("setUp(6, 1, 0)", Due.BAD, x.setUp(6, 1, 0));
        Due.is("setUp(0, 0, 0)", Due.BAD, x.setUp(0, 0, 0));
        Due.is("setUp(0, 10, 0)", Due.BAD, x.setUp(0, 10, 0));
        Due.is("setUp(0, 1, 3)", Due.BAD, x.setUp(0, 1, 3));
        Due.is("setUp(0, 1, -3)", Due.BAD, x.setUp(0, 1, -3));
        Due.is("setUp(0, 1, 6)", Due.BAD, x.setUp(0, 1, 6));
        Due.is("ACTS", 3, x.count(6));
        Due.is("moment(-1)", 1, x.moment(-1));
        Due.hoop("DOWN", x, 1, 1, 3, 1, 2);
        Due.is("setUp(4, 9, 0), of one DOWN", 1, x.setUp(4, 9, 0));
        Due.hoop("not DOWN", x, 4, 9, 0, 0, 2);
        Due.is("moment(-1)", 6, x.moment(-1));
        Due.is("setUp(1, 2, 1), of one HOME", 6, x.setUp(1, 2, 1));
        Due.hoop("not HOME", x, 1, 2, 1, 0, 3);
    }

    private static void lay() {
        HoopLane x = Due.told("h5,2,2,0;gfdursw;");
        for (int yard = 0; yard < 6; yard++) {
            Due.is("lay(" + yard + ")", yard, x.lay(yard, 5 - yard));
            Due.is("ground(" + yard + ")", 5 - yard, x.ground(yard));
        }
        Due.is("the same anew", 0, x.lay(5, 0));
        Due.is("an ACT, too", 7, x.count(6));
        Due.is("lay(-1, 0)", Due.BAD, x.lay(-1, 0));
        Due.is("lay(6, 0)", Due.BAD, x.lay(6, 0));
        Due.is("lay(0, -1)", Due.BAD, x.lay(0, -1));
        Due.is("lay(0, 6)", Due.BAD, x.lay(0, 6));
        Due.is("ACTS", 7, x.count(6));
        x.moment(-1);
        Due.hoop("on the rut that is laid", x, 2, 5, 0, 0, 1);
        x.setUp(5, 9, 0);
        x.moment(-1);
        Due.is("lay, HOME", 3, x.lay(2, 0));
    }

    private static void undo() {
        HoopLane x = Due.told("h5,3,3,0;gfffsffff;v1;");
        x.moment(0);
        x.lay(4, 4);
        x.lay(4, 5);
        x.setUp(7, 9, -1);
        x.moment(-1);
        Due.hoop("HOME", x, 8, 9, -1, 2, 2);
        Due.is("ACTS", 5, x.count(6));
        Due.is("undo of a MOMENT", 4, x.undo());
        Due.hoop("undone", x, 7, 9, -1, 0, 1);
        Due.is("undo of setUp", 3, x.undo());
        Due.hoop("undone", x, 3, 6, 3, 0, 1);
        Due.is("undo of lay", 2, x.undo());
        Due.is("ground(4)", 4, x.ground(4));
        Due.is("undo of lay", 1, x.undo());
        Due.is("ground(4)", 0, x.ground(4));
        Due.is("undo of a MOMENT", 0, x.undo());
        Due.hoop("undone", x, 0, 5, 1, 0, 0);
        Due.is("undo of none", Due.STATE, x.undo());
        x.setUp(0, 5, 1);
        Due.is("undo of what changes nothing", 0, x.undo());
        undoDown();
        undoMany();
    }

    private static void undoDown() {
        HoopLane x = Due.told("h3,2,1,3;gffff;");
        x.moment(-1);
        Due.hoop("DOWN", x, 2, 0, 1, 1, 1);
        x.setUp(0, 9, 0);
        x.undo();
        Due.hoop("DOWN again", x, 2, 0, 1, 1, 1);
        Due.is("no MOMENT", Due.STATE, x.moment(-1));
        x.undo();
        Due.hoop("not DOWN", x, 0, 3, 0, 0, 0);
    }

    private static void undoMany() {
        HoopLane x = Due.told("h5,3,3,0;gffffffff;");
        for (int k = 1; k <= 60; k++) {
            x.setUp(k % 8, 1 + k % 9, 0);
            Due.is("ACTS of " + k, Math.min(k, 24), x.count(6));
        }
        for (int k = 59; k >= 36; k--) {
            Due.is("undo to " + k, k - 36, x.undo());
            Due.hoop("undone to " + k, x, k % 8, 1 + k % 9, 0, 0, 0);
        }
        Due.is("the oldest are forgotten", Due.STATE, x.undo());
        x.lay(0, 3);
        Due.is("one anew", 1, x.count(6));
        Due.is("undo", 0, x.undo());
        Due.is("ground(0)", 0, x.ground(0));
    }

    private static void images() {
        HoopLane x = new HoopLane();
        Due.is("image(-1): BAD ahead of STATE", Due.BAD, x.image(-1));
        Due.is("image(2)", Due.BAD, x.image(2));
        Due.is("image(0), no LANE", Due.STATE, x.image(0));
        Due.is("restore(-1)", Due.BAD, x.restore(-1));
        Due.is("restore(2)", Due.BAD, x.restore(2));
        Due.is("restore(0), none kept", Due.STATE, x.restore(0));
        Due.read(x, "h5,3,3,1;gfffsffff;v1;b2;");
        x.moment(0);
        x.lay(5, 3);
        Due.is("image(1)", 1, x.image(1));
        Due.is("ACTS stay", 2, x.count(6));
        x.lay(5, 1);
        x.moment(1);
        Due.is("another LANE", 1, Due.read(x, "h9,2,5,2;gfff;o5;"));
        Due.is("restore(0), none kept", Due.STATE, x.restore(0));
        Due.is("image(0)", 1, x.image(0));
        x.moment(-1);
        Due.is("restore(1)", 1, x.restore(1));
        Due.hoop("as kept", x, 3, 5, 3, 0, 1);
        Due.is("YARDS", 8, x.count(1));
        Due.is("TAPS", 2, x.count(2));
        Due.is("HOLDS", 3, x.count(3));
        Due.is("DRAG", 1, x.count(4));
        Due.is("MOMENT", 1, x.count(5));
        Due.is("no ACT", 0, x.count(6));
        Due.is("undo()", Due.STATE, x.undo());
        Due.is("ground(5)", 3, x.ground(5));
        Due.is("ground(3)", 4, x.ground(3));
        Due.is("kind(1)", 4, x.kind(1));
        Due.is("force(1)", 2, x.force(1));
        x.moment(-1);
        Due.hoop("on from there", x, 5, 4, 0, 0, 2);
        Due.is("restore(1) again", 1, x.restore(1));
        Due.hoop("as kept", x, 3, 5, 3, 0, 1);
        Due.is("restore(0)", 1, x.restore(0));
        Due.hoop("as kept", x, 0, 9, 0, 0, 0);
        Due.is("HOLDS", 5, x.count(3));
        x.moment(-1);
        x.image(0);
        x.setUp(0, 9, 0);
        x.restore(0);
        Due.hoop("an IMAGE of one HOME", x, 3, 9, 0, 2, 1);
    }
}
