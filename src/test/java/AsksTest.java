/** Promises 30 to 35: KINDS, ASKS, THE TRACE, counts. */
public final class AsksTest {
    public static void main(String[] args) {
        kinds();
        asks();
        trace();
        count();
        Due.end();
    }

    private static void kinds() {
        HoopLane x = new HoopLane();
        Due.is("kind(0), no LANE", Due.BAD, x.kind(0));
        Due.is("as(0, 0), no LANE", Due.BAD, x.as(0, 0));
        Due.read(x, "h5,3,3,0;gffffffff;v1;i2;o3;b4;t5;");
        String[] are = {"110000", "111000", "110100", "100010", "100011"};
        for (int tap = 0; tap < 5; tap++) {
            Due.is("kind(" + tap + ")", tap + 1, x.kind(tap));
            for (int kind = 0; kind <= 5; kind++) {
                boolean is = are[tap].charAt(kind) == '1';
                Due.is("as(" + tap + ", " + kind + ")", is ? tap : Due.KIND, x.as(tap, kind));
                Due.is("status of as(" + tap + ", " + kind + ")", is ? 0 : 3, x.status());
            }
        }
        Due.is("kind(-1)", Due.BAD, x.kind(-1));
        Due.is("kind(5)", Due.BAD, x.kind(5));
        Due.is("as(-1, 0)", Due.BAD, x.as(-1, 0));
        Due.is("as(5, 0)", Due.BAD, x.as(5, 0));
        Due.is("as(0, -1)", Due.BAD, x.as(0, -1));
        Due.is("as(0, 6)", Due.BAD, x.as(0, 6));
    }

    private static void asked(HoopLane x, int one, int what, int due, int... bodies) {
        String call = "ask(" + one + ", " + what + ")";
        Due.is(call, due, x.ask(one, what));
        for (int i = 0; i < bodies.length; i++) {
            Due.is("trace(" + i + ") of " + call, bodies[i], x.trace(i));
        }
        Due.is("the end of the trace of " + call, Due.NONE, x.trace(bodies.length));
    }

    private static void asks() {
        HoopLane x = Due.told("h6,3,3,0;gffffffff;v1;i2;o3;b4;t5;");
        asked(x, 0, 0, 1 + 0 + 6, 11, 10, 21, 20);
        asked(x, 0, 1, 0 + 6, 21, 20);
        asked(x, 1, 0, 0 - (2 + 2 * (1 + 6)), 12, 11, 10, 24, 21, 20);
        asked(x, 1, 1, 2 * (1 + 6), 24, 21, 20);
        asked(x, 2, 0, 3 + 2 + 6 - 1000, 11, 10, 22, 21, 20);
        asked(x, 2, 1, 2 + 6 - 1000, 22, 21, 20);
        asked(x, 3, 0, 4 - 100, 13, 10);
        asked(x, 3, 1, 3 - (4 - 100), 23, 20, 13, 10);
        asked(x, 4, 0, 2 * (5 - 100), 14, 13, 10);
        asked(x, 4, 1, 4 - 2 * (5 - 100), 23, 20, 14, 13, 10);
        x.moment(3);
        Due.hoop("slower", x, 1, 2, 2, 0, 1);
        asked(x, 0, 1, 0 + 2, 21, 20);
        asked(x, 1, 0, 0 - (2 + 2 * (1 + 2)), 12, 11, 10, 24, 21, 20);
        x.setUp(0, 1, 0);
        x.moment(3);
        Due.hoop("DOWN", x, 1, 0, -1, 1, 2);
        asked(x, 2, 1, 2 + 0 - 1000, 22, 21, 20);
    }

    private static void trace() {
        HoopLane x = new HoopLane();
        Due.is("ask, no LANE", Due.BAD, x.ask(0, 0));
        Due.read(x, "h6,3,3,0;gffffffff;v1;i2;");
        Due.is("trace(0), none asked", Due.NONE, x.trace(0));
        x.ask(1, 0);
        Due.is("ask(2, 0)", Due.BAD, x.ask(2, 0));
        Due.is("ask(-1, 0)", Due.BAD, x.ask(-1, 0));
        Due.is("ask(0, -1)", Due.BAD, x.ask(0, -1));
        Due.is("ask(0, 2)", Due.BAD, x.ask(0, 2));
        Due.is("it stays", 12, x.trace(0));
        Due.is("trace(5)", 20, x.trace(5));
        Due.is("trace(6)", Due.NONE, x.trace(6));
        Due.is("trace(-1)", Due.NONE, x.trace(-1));
        Due.is("trace(16)", Due.NONE, x.trace(16));
        Due.is("trace(max)", Due.NONE, x.trace(Integer.MAX_VALUE));
        Due.read(x, "h6,3,3,0;gf;");
        Due.is("it stays by another LANE", 12, x.trace(0));
    }

    private static void count() {
        HoopLane x = Due.told("h6,3,4,2;gffffffff;v1;i2;");
        x.row(3, 0, 0);
        x.moment(-1);
        x.lay(0, 0);
        x.moment(-1);
        Due.feed(x, "h6");
        int[] due = {1, 8, 2, 4, 2, 2, 3, 2};
        for (int what = 0; what < due.length; what++) {
            Due.is("count(" + what + ")", due[what], x.count(what));
        }
        Due.is("count(-1)", Due.BAD, x.count(-1));
        Due.is("count(8)", Due.BAD, x.count(8));
        x.undo();
        Due.is("count(5) undone", 1, x.count(5));
        Due.is("count(6) undone", 2, x.count(6));
    }
}
