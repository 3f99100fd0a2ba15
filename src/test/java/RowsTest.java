/** Promises 1 to 5 and 35: a new object, rows, and the FINDINGS of calls with a ROW. */
public final class RowsTest {
    public static void main(String[] args) {
        newObject();
        row();
        set();
        copy();
        drop();
        status();
        Due.end();
    }

    private static void newObject() {
        HoopLane x = new HoopLane();
        for (int what = 0; what <= 7; what++) {
            Due.is("new count(" + what + ")", 0, x.count(what));
        }
        Due.is("new hoop(0)", Due.STATE, x.hoop(0));
        Due.is("new fault()", 0, x.fault());
        Due.is("new status()", 0, x.status());
        Due.is("new undo()", Due.STATE, x.undo());
        Due.is("new trace(0)", Due.NONE, x.trace(0));
        for (int row = 0; row < 8; row++) {
            Due.is("new drop(" + row + ")", Due.NULL, x.drop(row));
        }
    }

    private static void row() {
        HoopLane x = new HoopLane();
        Due.is("row(0, 0, 0)", 0, x.row(0, 0, 0));
        Due.is("row(7, 2, 40)", 40, x.row(7, 2, 40));
        Due.is("count(0)", 2, x.count(0));
        Due.is("set(7, 39, 5)", 5, x.set(7, 39, 5));
        Due.is("row(7, 2, 3) anew", 3, x.row(7, 2, 3));
        Due.is("set(7, 3, 5)", Due.PLACE, x.set(7, 3, 5));
        Due.is("row(7, 2, 40) anew", 40, x.row(7, 2, 40));
        Due.is("row(6, 2, 40)", 40, x.row(6, 2, 40));
        Due.is("count(0)", 3, x.count(0));
        Due.is("row(-1, 0, 1)", Due.BAD, x.row(-1, 0, 1));
        Due.is("row(8, 0, 1)", Due.BAD, x.row(8, 0, 1));
        Due.is("row(0, -1, 1)", Due.BAD, x.row(0, -1, 1));
        Due.is("row(0, 3, 1)", Due.BAD, x.row(0, 3, 1));
        Due.is("row(0, 0, 41)", Due.BAD, x.row(0, 0, 41));
        Due.is("row(0, 0, max)", Due.BAD, x.row(0, 0, Integer.MAX_VALUE));
        Due.is("row(8, 0, -1): BAD ahead of SIZE", Due.BAD, x.row(8, 0, -1));
        Due.is("row(0, 3, -1): BAD ahead of SIZE", Due.BAD, x.row(0, 3, -1));
        Due.is("row(6, 0, -1)", Due.SIZE, x.row(6, 0, -1));
        Due.is("row(6, 0, min)", Due.SIZE, x.row(6, 0, Integer.MIN_VALUE));
        Due.is("the row stays", 40, x.drop(6));
        zeros();
    }

    /** ITEMS are 0 at first, also where others stood: seen by a MOMENT foretold of them. */
    private static void zeros() {
        HoopLane x = Due.told("h9,2,5,0;gfffffffffffffffffffffff;b5;");
        Due.fill(x, 0, 2, -1, -1);
        x.row(0, 2, 2);
        // TAP 0 in both MOMENTS: PACE 4, DOWN in the second; without TAPS it would roll on.
        Due.is("plan of a row made anew", 2, x.plan(0, 0, 2, 0));
        Due.is("plan of a row made anew", 1, x.plan(0, 0, 2, 1));
    }

    private static void set() {
        HoopLane x = new HoopLane();
        for (int lane = 0; lane <= 2; lane++) {
            x.row(lane, lane, 2);
        }
        int[][] due = {{127, 127, 127}, {-128, 128, 128}, {-1, 255, 255}, {0, 256, 256}, {-1, 32767, 32767},
            {0, -32768, 32768}, {-1, -1, 65535}, {0, 0, 65536}, {-1, -1, -1}, {-1, -1, Integer.MAX_VALUE},
            {0, 0, Integer.MIN_VALUE}, {127, -129, -129}};
        for (int[] items : due) {
            for (int lane = 0; lane <= 2; lane++) {
                Due.is("set(" + lane + ", 1, " + items[2] + ")", items[lane], x.set(lane, 1, items[2]));
            }
        }
        Due.is("set(-1, 0, 0)", Due.BAD, x.set(-1, 0, 0));
        Due.is("set(8, 0, 0)", Due.BAD, x.set(8, 0, 0));
        Due.is("set(3, -1, 0): NULL ahead of PLACE", Due.NULL, x.set(3, -1, 0));
        Due.is("set(0, -1, 0)", Due.PLACE, x.set(0, -1, 0));
        Due.is("set(0, 2, 0)", Due.PLACE, x.set(0, 2, 0));
        Due.is("set(0, max, 0)", Due.PLACE, x.set(0, Integer.MAX_VALUE, 0));
        Due.is("set(0, min, 0)", Due.PLACE, x.set(0, Integer.MIN_VALUE, 0));
        x.row(4, 1, 0);
        Due.is("set(4, 0, 0) of no ITEMS", Due.PLACE, x.set(4, 0, 0));
    }

    /** What stands in a row is seen by who(): the one KIND that comes to this YARD. */
    private static void copy() {
        HoopLane x = new HoopLane();
        Due.fill(x, 0, 0, 1, 2, 3, 4, 5);
        Due.fill(x, 1, 0, 6, 7, 8);
        Due.fill(x, 2, 2, 6, 7, 8);
        Due.is("copy(0, 1, 1, 0, 2)", 2, x.copy(0, 1, 1, 0, 2));
        Due.is("copy(0, 0, 1, 0, 3)", 3, x.copy(0, 0, 1, 0, 3));
        Due.is("copy(0, 5, 1, 3, 0) at the ends", 0, x.copy(0, 5, 1, 3, 0));
        Due.is("copy(-1, ..)", Due.BAD, x.copy(-1, 0, 0, 0, 1));
        Due.is("copy(8, ..)", Due.BAD, x.copy(8, 0, 0, 0, 1));
        Due.is("copy(.., -1, ..)", Due.BAD, x.copy(0, 0, -1, 0, 1));
        Due.is("copy(.., 8, ..)", Due.BAD, x.copy(3, 0, 8, 0, 1));
        Due.is("copy from none", Due.NULL, x.copy(3, 0, 0, 0, 1));
        Due.is("copy to none", Due.NULL, x.copy(0, 0, 3, 0, 1));
        Due.is("copy to none: NULL ahead of PLACE", Due.NULL, x.copy(0, -1, 3, 0, 1));
        Due.is("STORE ahead of PLACE", Due.STORE, x.copy(0, -1, 2, 0, 1));
        Due.is("STORE of no ITEMS", Due.STORE, x.copy(2, 0, 0, 0, 0));
        Due.is("i below 0", Due.PLACE, x.copy(0, -1, 1, 0, 1));
        Due.is("j below 0", Due.PLACE, x.copy(0, 0, 1, -1, 1));
        Due.is("n below 0", Due.PLACE, x.copy(0, 0, 1, 0, -1));
        Due.is("i beyond", Due.PLACE, x.copy(0, 3, 1, 0, 3));
        Due.is("j beyond", Due.PLACE, x.copy(0, 0, 1, 1, 3));
        Due.is("i beyond, none", Due.PLACE, x.copy(0, 6, 1, 0, 0));
        Due.is("j beyond, none", Due.PLACE, x.copy(0, 0, 1, 4, 0));
        Due.is("sum beyond int", Due.PLACE, x.copy(0, Integer.MAX_VALUE, 1, 0, 1));
        Due.is("n beyond int", Due.PLACE, x.copy(0, 1, 1, 0, Integer.MAX_VALUE));
        Due.is("n the least int", Due.PLACE, x.copy(0, 1, 1, 0, Integer.MIN_VALUE));
        overlap(0, 1, new int[] {1, 1, 2, 3, 5});
        overlap(1, 0, new int[] {2, 3, 4, 4, 5});
        overlap(2, 1, new int[] {1, 3, 4, 5, 5});
    }

    /** Three ITEMS within one ROW: as they were ahead, upwards and downwards. */
    private static void overlap(int i, int j, int[] due) {
        HoopLane x = Due.told("h1,2,5,0;gffffffffffffffffffffffff;");
        Due.fill(x, 0, 1, 1, 2, 3, 4, 5);
        Due.is("copy(0, " + i + ", 0, " + j + ", 3)", 3, x.copy(0, i, 0, j, 3));
        for (int k = 0; k < due.length; k++) {
            // From YARD due - 1 a hoop of PACE 1 comes to YARD due.
            x.setUp(due[k] - 1, 1, 0);
            Due.is("item " + k + " is " + due[k], 2, x.seen(0, k, 1, 0) & 2);
        }
    }

    private static void drop() {
        HoopLane x = new HoopLane();
        Due.fill(x, 5, 1, 1, 2, 3);
        x.row(2, 0, 0);
        Due.is("count(0)", 2, x.count(0));
        Due.is("drop(5)", 3, x.drop(5));
        Due.is("drop(5) again", Due.NULL, x.drop(5));
        Due.is("drop(2)", 0, x.drop(2));
        Due.is("count(0)", 0, x.count(0));
        Due.is("set(5, 0, 1)", Due.NULL, x.set(5, 0, 1));
        Due.is("drop(-1)", Due.BAD, x.drop(-1));
        Due.is("drop(8)", Due.BAD, x.drop(8));
    }

    private static void status() {
        HoopLane x = Due.told("h5,2,3,0;gffffffff;v1;");
        Due.is("at first", 0, x.status());
        x.set(0, 0, 0);
        Due.is("NULL", 1, x.status());
        x.set(8, 0, 0);
        Due.is("BAD tells nothing", 1, x.status());
        x.hoop(0);
        x.ask(0, 0);
        x.moment(-1);
        Due.is("calls without a ROW tell nothing", 1, x.status());
        x.row(0, 0, 3);
        Due.is("row", 0, x.status());
        x.set(0, 3, 0);
        Due.is("PLACE", 2, x.status());
        x.set(0, 2, 0);
        Due.is("set", 0, x.status());
        x.as(0, 4);
        Due.is("KIND", 3, x.status());
        x.as(0, 6);
        x.as(1, 0);
        Due.is("as, BAD", 3, x.status());
        x.as(0, 1);
        Due.is("as", 0, x.status());
        x.row(1, 0, -1);
        Due.is("SIZE", 4, x.status());
        x.row(1, 1, 2);
        x.copy(0, 0, 1, 0, 1);
        Due.is("STORE", 5, x.status());
        x.copy(0, 0, 0, 1, 1);
        Due.is("copy", 0, x.status());
        x.drop(7);
        Due.is("drop, NULL", 1, x.status());
        x.drop(1);
        Due.is("drop", 0, x.status());
        statusForetold(x);
    }

    private static void statusForetold(HoopLane x) {
        Due.fill(x, 0, 0, 0, 3, 5);
        x.plan(0, 3, 1, 0);
        Due.is("plan, PLACE", 2, x.status());
        x.plan(0, 0, 2, 0);
        Due.is("plan, BAD by an ITEM, tells nothing", 2, x.status());
        x.plan(0, 0, 1, 0);
        Due.is("plan", 0, x.status());
        x.seen(3, 0, 1, 0);
        Due.is("seen, NULL", 1, x.status());
        x.seen(0, 0, 1, 0);
        Due.is("seen", 0, x.status());
        x.who(0, 0, 3, 1);
        Due.is("who, PLACE", 2, x.status());
        x.who(0, 0, 0, 1);
        Due.is("who", 0, x.status());
        x.miss(4, 0, 1, 5, 0);
        Due.is("miss, NULL", 1, x.status());
        x.miss(0, 1, 1, 5, 0);
        Due.is("miss, BAD by an ITEM, tells nothing", 1, x.status());
        x.miss(0, 0, 1, 5, 0);
        Due.is("miss", 0, x.status());
        x.seen(4, 0, 1, 0);
        x.setUp(7, 9, 0);
        x.moment(-1);
        x.seen(0, 0, 1, 0);
        Due.is("seen, STATE, tells nothing", 1, x.status());
    }
}
