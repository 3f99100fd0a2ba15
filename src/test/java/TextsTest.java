/** Promises 6 to 8: the tape, the LANE read from it, its FAULTS. */
public final class TextsTest {
    private static final String LAW = "h5,3,3,1;";

    public static void main(String[] args) {
        feed();
        lanes();
        faults();
        stays();
        Due.end();
    }

    private static void feed() {
        HoopLane x = new HoopLane();
        Due.is("feed(-1)", Due.BAD, x.feed(-1));
        Due.is("feed(256)", Due.BAD, x.feed(256));
        Due.is("feed(0)", 1, x.feed(0));
        Due.is("feed(255)", 2, x.feed(255));
        for (int k = 3; k <= 100; k++) {
            Due.is("feed(" + k + "th)", k, x.feed('h'));
        }
        Due.is("feed(101st)", Due.FULL, x.feed('h'));
        Due.is("BAD ahead of FULL", Due.BAD, x.feed(256));
        Due.is("count(7)", 100, x.count(7));
        Due.is("lane()", -1000100, x.lane());
        Due.is("count(7) then", 0, x.count(7));
        Due.is("feed then", 1, x.feed('h'));
    }

    private static void lanes() {
        HoopLane x = new HoopLane();
        Due.is("all TAPS", 5, Due.read(x, "h9,4,5,3;gfdursw;t5;b4;o3;i2;v1;"));
        Due.is("YARDS", 6, x.count(1));
        Due.is("TAPS", 5, x.count(2));
        Due.is("HOLDS", 5, x.count(3));
        Due.is("DRAG", 3, x.count(4));
        Due.is("tape", 0, x.count(7));
        Due.hoop("as read", x, 0, 9, 2, 0, 0);
        for (int yard = 0; yard < 6; yard++) {
            Due.is("ground(" + yard + ")", yard, x.ground(yard));
        }
        for (int tap = 0; tap < 5; tap++) {
            Due.is("kind(" + tap + ")", 5 - tap, x.kind(tap));
            Due.is("force(" + tap + ")", 5 - tap, x.force(tap));
        }
        Due.is("one of the least", 0, Due.read(x, "h1,0,1,0;gf;"));
        Due.hoop("LEAN beyond HOLDS as read", x, 0, 1, -2, 0, 0);
        Due.is("YARDS", 1, x.count(1));
        Due.is("kind(0)", Due.BAD, x.kind(0));
        Due.is("two figures", 1, Due.read(x, "h05,03,02,00;gf;v04;"));
        Due.hoop("two figures", x, 0, 5, 1, 0, 0);
        Due.is("force(0)", 4, x.force(0));
        Due.is("24 YARDS", 0, Due.read(x, LAW + "gffffffffffffffffffffffff;"));
        Due.is("YARDS", 24, x.count(1));
    }

    /** FAULT number and place of a text told to a new object. */
    private static void fault(String text, int number, int place) {
        HoopLane x = new HoopLane();
        Due.is("lane() of " + text, -1000100 - place, Due.read(x, text));
        Due.is("fault() of " + text, number, x.fault());
        Due.is("no LANE by " + text, Due.STATE, x.hoop(0));
    }

    private static void faults() {
        fault("", 1, 0);
        String whole = LAW + "gfd;v1;";
        for (int end = 1; end < whole.length(); end++) {
            if (end != LAW.length() + 4) {
                fault(whole.substring(0, end), 1, end);
            }
        }
        fault("g", 1, 0);
        fault("H5,3,3,1;gf;", 1, 0);
        fault("5,3,3,1;gf;", 1, 0);
        fault("h,", 1, 1);
        fault("hx", 1, 1);
        fault("h5;", 1, 2);
        fault("h 5", 1, 1);
        fault("h5,3,3,1,", 1, 8);
        fault("h0,9,9,9;", 2, 1);
        fault("h10,3,3,1;", 2, 1);
        fault("h99,3,3,1;", 2, 1);
        fault("h100,3,3,1;", 1, 1);
        fault("h000000000005,", 1, 1);
        fault("h005,3,3,1;", 1, 1);
        fault("h4294967297,", 1, 1);
        fault("h5,5,3,1;", 2, 3);
        fault("h5,3,0,1;", 2, 5);
        fault("h5,3,6,1;", 2, 5);
        fault("h5,3,3,4;", 2, 7);
        fault("h5,3,03,44;", 2, 8);
        fault(LAW + "f", 1, 9);
        fault(LAW + "g;", 1, 10);
        fault(LAW + "gv;", 1, 10);
        fault(LAW + "gf1;", 1, 11);
        fault(LAW + "gF;", 1, 10);
        fault(LAW + "gf,", 1, 11);
        fault(LAW + "gfffffffffffffffffffffffff;", 1, 34);
        fault(LAW + "gfffffffffffffffffffffffff", 1, 34);
        fault(LAW + "gf;f1;", 1, 12);
        fault(LAW + "gf;;", 1, 12);
        fault(LAW + "gf;1;", 1, 12);
        fault(LAW + "gf;v;", 1, 13);
        fault(LAW + "gf;v0;", 2, 13);
        fault(LAW + "gf;v6;", 2, 13);
        fault(LAW + "gf;v123;", 1, 13);
        fault(LAW + "gf;v1,", 1, 14);
        fault(LAW + "gf;v1v1;", 1, 14);
        fault(LAW + "gf;v1;i1;o1;b1;t1;v1;", 3, 27);
        fault(LAW + "gf;v1;i1;o1;b1;t1;t", 3, 27);
        fault(LAW + "gf;v1;i1;o1;b1;t1;f1;", 1, 27);
        fault(LAW + "gf;v1;i1;o1;b1;t1;1", 1, 27);
        fault(LAW + "gf;v1;i1;o1;b1;t1;h5,3,3,1;", 1, 27);
        HoopLane x = new HoopLane();
        Due.feed(x, LAW + "gf");
        x.feed(255);
        Due.is("a byte that is no TOKEN", -1000111, x.lane());
    }

    private static void stays() {
        HoopLane x = Due.told("h5,3,3,1;gffffffff;v1;");
        x.row(0, 0, 2);
        x.image(1);
        x.moment(0);
        Due.is("lane() with a FAULT", -1000101, Due.read(x, "h0,3,3,1;gf;"));
        Due.is("fault()", 2, x.fault());
        Due.is("tape", 0, x.count(7));
        Due.hoop("as it was", x, 3, 5, 1, 0, 1);
        Due.is("ACTS stay", 1, x.count(6));
        Due.is("undo()", 0, x.undo());
        Due.hoop("undone", x, 0, 5, 1, 0, 0);
        x.moment(0);
        Due.is("lane()", 0, Due.read(x, "h7,2,2,0;gffff;"));
        Due.is("fault() stays", 2, x.fault());
        Due.hoop("anew", x, 0, 7, 0, 0, 0);
        Due.is("no ACT can be undone", 0, x.count(6));
        Due.is("undo()", Due.STATE, x.undo());
        Due.is("ROWS stay", 1, x.count(0));
        Due.is("no TAPS of before", Due.BAD, x.kind(0));
        Due.is("no YARDS of before", Due.BAD, x.ground(4));
        Due.is("IMAGES stay", 1, x.restore(1));
        Due.hoop("of the IMAGE", x, 0, 5, 1, 0, 0);
        Due.is("fault 3", -1000127, Due.read(x, "h5,3,3,1;gf;v1;v1;v1;v1;v1;v1;"));
        Due.is("fault()", 3, x.fault());
        Due.is("lane() of nothing", -1000100, x.lane());
        Due.is("fault()", 1, x.fault());
    }
}
