import java.util.function.Supplier;

/** Objects that the tests of boundary cases begin with, and what a refused call leaves of them. */
final class Given {
    /** A TAP of each KIND; 13 YARDS. */
    private static final String LANE = "h5,3,3,1;gfffffffffffff;v3;i2;o4;b2;t1;";

    private Given() {
    }

    /** A call on an object, as it stands in a test. */
    interface Call {
        long on(HoopLane x);
    }

    /** No LANE: rows, two bytes on the tape, FAULT 1 told, status() 2. */
    static HoopLane noLane() {
        HoopLane x = new HoopLane();
        x.lane();
        Due.fill(x, 0, 0, 1, 2, 3, 4);
        Due.fill(x, 1, 1, 4, 3, 2, 1);
        Due.fill(x, 2, 2, 0, 4, -1);
        x.row(3, 0, 0);
        x.set(3, 0, 0);
        Due.feed(x, "h5");
        return x;
    }

    /** At YARD 4 of 13, PACE 4, upright, MOMENT 2; three ACTS, an IMAGE, THE TRACE not empty, status() 3. */
    static HoopLane rolling() {
        HoopLane x = noLane();
        x.lane();
        Due.read(x, LANE);
        x.image(0);
        x.moment(-1);
        x.lay(9, 3);
        x.moment(1);
        x.ask(1, 0);
        x.as(0, 4);
        Due.feed(x, "h5");
        return x;
    }

    /** As rolling, but DOWN at YARD 6, PACE 0, LEAN -2, MOMENT 4. */
    static HoopLane down() {
        HoopLane x = rolling();
        x.moment(3);
        x.moment(3);
        return x;
    }

    /** As rolling, but HOME (YARD 13), PACE 9, MOMENT 3. */
    static HoopLane home() {
        HoopLane x = rolling();
        x.setUp(12, 9, 0);
        x.moment(-1);
        return x;
    }

    /** A hoop of a law at YARD 0, then set up there anew: what each test of one MOMENT begins with. */
    static HoopLane standing(String text, int yard, int pace, int lean) {
        HoopLane x = Due.told(text);
        x.setUp(yard, pace, lean);
        return x;
    }

    /** A call that is refused, or finds: what it answers, and that nothing but status() becomes another by it. */
    static void refused(String call, int due, Supplier<HoopLane> made, Call asked) {
        HoopLane x = made.get();
        int status = x.status();
        Due.is(call, due, asked.on(x));
        boolean found = due <= Due.NULL && due >= Due.STORE;
        Due.is(call + ", status() then", found ? -1000010 - due : status, x.status());
        unchanged(call, x, made.get());
    }

    /** A call that answers what is due, and by which nothing but status() becomes another. */
    static void answers(String call, long due, Supplier<HoopLane> made, Call asked) {
        HoopLane x = made.get();
        Due.is(call, due, asked.on(x));
        unchanged(call, x, made.get());
    }

    private static void unchanged(String call, HoopLane x, HoopLane untouched) {
        String before = all(untouched);
        String then = all(x);
        Due.holds(call + " changes nothing: before " + before + " then " + then, before.equals(then));
    }

    /** All that can be found out of an object, but status(); it is worn out by that. */
    static String all(HoopLane x) {
        StringBuilder told = new StringBuilder();
        told.append(x.fault());
        lane(told, x);
        for (int i = 0; i < 7; i++) {
            told.append(' ').append(x.trace(i));
        }
        for (int k = 0; k < 24 && x.undo() >= 0; k++) {
            told.append(" undo");
            hoop(told, x);
        }
        for (int k = 0; k < 2; k++) {
            told.append(" image ").append(x.restore(k));
            lane(told, x);
        }
        told.append(" tape ").append(x.lane()).append(' ').append(x.fault());
        rows(told, x);
        return told.toString();
    }

    private static void hoop(StringBuilder told, HoopLane x) {
        for (int what = 0; what < 5; what++) {
            told.append(' ').append(x.hoop(what));
        }
    }

    private static void lane(StringBuilder told, HoopLane x) {
        hoop(told, x);
        for (int what = 0; what < 8; what++) {
            told.append(' ').append(x.count(what));
        }
        for (int yard = 0; yard < 13; yard++) {
            told.append(' ').append(x.ground(yard));
        }
        for (int tap = 0; tap < 5; tap++) {
            told.append(' ').append(x.kind(tap)).append(' ').append(x.force(tap));
        }
    }

    /** Each ITEM of 1 to 4 by the PACES that come to such a YARD, the width by what a set() leaves, the size by drop(). */
    private static void rows(StringBuilder told, HoopLane x) {
        told.append(" read ").append(Due.read(x, "h1,2,5,0;gffffff;"));
        for (int row = 0; row < 8; row++) {
            told.append(" row");
            for (int i = 0; i < 4; i++) {
                told.append(' ').append(x.seen(row, i, 1, 0));
            }
            told.append(' ').append(x.set(row, 0, 70000)).append(' ').append(x.drop(row));
        }
    }
}
