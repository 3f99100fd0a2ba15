/** Each sentence on a boundary case: KINDS, ASKS, THE TRACE, promises 30 to 34. */
public final class BoundsAsksTest {
    /** PACE 6; TAP t is of KIND t + 1, and FORCE t + 1. */
    private static final String ALL = "h6,3,3,0;gffffffff;v1;i2;o3;b4;t5;";

    public static void main(String[] args) {
        kinds();
        traced();
        size10();
        size11();
        size12();
        size13();
        size14();
        mark20();
        mark21();
        mark22();
        mark23();
        mark24();
        nearest();
        askedAnew();
        kind();
        kindRefused();
        as();
        asRefused();
        ask();
        askRefused();
        traceEmpty();
        traceNone();
        count();
        countRefused();
        Due.end();
    }

    private static HoopLane all() {
        return Due.told(ALL);
    }

    private static void asked(HoopLane x, int one, int what, int due, int... bodies) {
        String call = "ask(" + one + ", " + what + ")";
        Due.is(call, due, x.ask(one, what));
        for (int i = 0; i < bodies.length; i++) {
            Due.is("trace(" + i + ") of " + call, bodies[i], x.trace(i));
        }
        Due.is("behind the trace of " + call, Due.NONE, x.trace(bodies.length));
    }

    // ---- KINDS, ASKS

    private static void kinds() {
        Due.says("3", "KINDS of TAPS: 0 TAP; 1 DRIVING, a TAP; 2 RIGHTING, a DRIVING one; 3 HOPPING, a DRIVING one; "
            + "4 BRAKING, a TAP; 5 RUTTED, a BRAKING one. By this it is asked.");
        String[] are = {"110000", "111000", "110100", "100010", "100011"};
        for (int tap = 0; tap < 5; tap++) {
            for (int kind = 0; kind <= 5; kind++) {
                int due = are[tap].charAt(kind) == '1' ? tap : Due.KIND;
                Due.is("as(" + tap + ", " + kind + ")", due, all().as(tap, kind));
            }
        }
    }

    private static void traced() {
        Due.says("4", "ASKS of TAPS, by BODIES, each of which leaves its number in THE TRACE as it begins (the first 16):");
        HoopLane x = all();
        int[] bodies = {12, 11, 10, 24, 21, 20};
        x.ask(1, 0);
        for (int i = 0; i < 20; i++) {
            Due.is("trace(" + i + ")", i < bodies.length ? bodies[i] : Due.NONE, x.trace(i));
        }
        // No ASK has more: the sixteen are never too few.
        for (int tap = 0; tap < 5; tap++) {
            for (int what = 0; what < 2; what++) {
                x.ask(tap, what);
                Due.is("trace(6) of ask(" + tap + ", " + what + ")", Due.NONE, x.trace(6));
            }
        }
    }

    private static void size10() {
        Due.says("4", "0 SIZE: 10 lent to all TAPS: FORCE.");
        asked(Due.told("h1,2,3,0;gff;b1;"), 0, 0, 1 - 100, 13, 10);
        asked(Due.told("h1,2,3,0;gff;b5;"), 0, 0, 5 - 100, 13, 10);
        asked(Due.told("h1,2,3,0;gff;v5;"), 0, 0, 5 + 0 + 1, 11, 10, 21, 20);
    }

    private static void size11() {
        Due.says("4", "11 of DRIVING ones: what 10 gives, and MARK.");
        asked(all(), 0, 0, 1 + (0 + 6), 11, 10, 21, 20);
        asked(all(), 2, 0, 3 + (2 + 6 - 1000), 11, 10, 22, 21, 20);
    }

    private static void size12() {
        Due.says("4", "12 of RIGHTING ones: 0 less what 11 gives.");
        asked(all(), 1, 0, 0 - (2 + 2 * (1 + 6)), 12, 11, 10, 24, 21, 20);
        asked(Due.told("h9,2,3,0;gff;v1;v1;v1;v1;i5;"), 4, 0, 0 - (5 + 2 * (4 + 9)), 12, 11, 10, 24, 21, 20);
    }

    private static void size13() {
        Due.says("4", "13 of BRAKING ones: what 10 gives, less 100.");
        asked(all(), 3, 0, 4 - 100, 13, 10);
    }

    private static void size14() {
        Due.says("4", "14 of RUTTED ones: twice what 13 gives (asked once).");
        asked(all(), 4, 0, 2 * (5 - 100), 14, 13, 10);
    }

    private static void mark20() {
        Due.says("4", "1 MARK: 20 lent to all TAPS: the number.");
        HoopLane x = Due.told("h1,2,3,0;gff;v1;v1;v1;v1;v1;");
        for (int tap = 0; tap < 5; tap++) {
            asked(x, tap, 1, tap + 1, 21, 20);
        }
    }

    private static void mark21() {
        Due.says("4", "21 of DRIVING ones: what 20 gives, and PACE now.");
        HoopLane x = all();
        asked(x, 0, 1, 0 + 6, 21, 20);
        x.setUp(0, 9, 0);
        asked(x, 0, 1, 0 + 9, 21, 20);
        x.moment(4);
        asked(x, 0, 1, 0 + 4, 21, 20);
        x.moment(3);
        Due.hoop("DOWN, PACE 0", x, 3, 0, -1, 1);
        asked(x, 0, 1, 0 + 0, 21, 20);
        asked(x, 2, 1, 2 + 0 - 1000, 22, 21, 20);
        x.setUp(7, 9, 0);
        x.moment(-1);
        Due.is("HOME", 2, x.hoop(3));
        asked(x, 0, 1, 0 + 9, 21, 20);
    }

    private static void mark22() {
        Due.says("4", "22 of HOPPING ones: what 21 gives, less 1000.");
        asked(all(), 2, 1, 2 + 6 - 1000, 22, 21, 20);
    }

    private static void mark23() {
        Due.says("4", "23 of BRAKING ones: what 20 gives, less SIZE.");
        asked(all(), 3, 1, 3 - (4 - 100), 23, 20, 13, 10);
    }

    private static void mark24() {
        Due.says("4", "24 of RIGHTING ones: twice what 21 gives (asked once).");
        asked(all(), 1, 1, 2 * (1 + 6), 24, 21, 20);
    }

    private static void nearest() {
        Due.says("4", "(Of an ask the BODY told for the KIND begins, else that of the nearest KIND that it is, too, "
            + "else the one that is lent;");
        int[][] begins = {{11, 21}, {12, 24}, {11, 22}, {13, 23}, {14, 23}};
        HoopLane x = all();
        for (int tap = 0; tap < 5; tap++) {
            for (int what = 0; what < 2; what++) {
                x.ask(tap, what);
                Due.is("the first BODY of ask(" + tap + ", " + what + ")", begins[tap][what], x.trace(0));
            }
        }
    }

    private static void askedAnew() {
        Due.says("4", "SIZE, MARK within others are asked of the same TAP anew.)");
        asked(all(), 4, 1, 4 - 2 * (5 - 100), 23, 20, 14, 13, 10);
        asked(all(), 2, 0, 3 + (2 + 6 - 1000), 11, 10, 22, 21, 20);
        asked(all(), 1, 0, 0 - (2 + 2 * (1 + 6)), 12, 11, 10, 24, 21, 20);
    }

    // ---- promises 30 to 34

    private static void kind() {
        Due.says("Promise 30", "The KIND of a TAP, as told (1 to 5).");
        for (int tap = 0; tap < 5; tap++) {
            Due.is("kind(" + tap + ")", tap + 1, all().kind(tap));
        }
        HoopLane x = all();
        x.as(4, 4);
        Due.is("as told, whatever it is taken as", 5, x.kind(4));
    }

    private static void kindRefused() {
        Due.says("Promise 30", "BAD.");
        Given.refused("kind(-1)", Due.BAD, Given::rolling, x -> x.kind(-1));
        Given.refused("kind(5)", Due.BAD, Given::rolling, x -> x.kind(5));
        Given.refused("kind(1) of one TAP", Due.BAD, () -> Due.told("h6,3,3,0;gff;v1;"), x -> x.kind(1));
        Given.refused("kind(0) of none", Due.BAD, () -> Due.told("h6,3,3,0;gff;"), x -> x.kind(0));
        Given.refused("kind(0), no LANE", Due.BAD, Given::noLane, x -> x.kind(0));
        Given.refused("kind(max)", Due.BAD, Given::rolling, x -> x.kind(Integer.MAX_VALUE));
    }

    private static void as() {
        Due.says("Promise 31", "A TAP is taken as one of a KIND (0 .. 5): its number.");
        Given.answers("as(0, 0)", 0, Given::rolling, x -> x.as(0, 0));
        Given.answers("as(1, 1)", 1, Given::rolling, x -> x.as(1, 1));
        Given.answers("as(4, 4)", 4, Given::rolling, x -> x.as(4, 4));
        Given.answers("as(4, 5)", 4, Given::rolling, x -> x.as(4, 5));
        Given.answers("as(3, 4) DOWN", 3, Given::down, x -> x.as(3, 4));
    }

    private static void asRefused() {
        Due.says("Promise 31", "BAD; KIND: it is no such one.");
        Given.refused("as(-1, 0)", Due.BAD, Given::rolling, x -> x.as(-1, 0));
        Given.refused("as(5, 0)", Due.BAD, Given::rolling, x -> x.as(5, 0));
        Given.refused("as(0, -1)", Due.BAD, Given::rolling, x -> x.as(0, -1));
        Given.refused("as(0, 6)", Due.BAD, Given::rolling, x -> x.as(0, 6));
        Given.refused("as(0, 0), no LANE", Due.BAD, Given::noLane, x -> x.as(0, 0));
        Given.refused("as(0, 2)", Due.KIND, Given::rolling, x -> x.as(0, 2));
        Given.refused("as(1, 3)", Due.KIND, Given::rolling, x -> x.as(1, 3));
        Given.refused("as(2, 4)", Due.KIND, Given::rolling, x -> x.as(2, 4));
        Given.refused("as(3, 5)", Due.KIND, Given::rolling, x -> x.as(3, 5));
        Given.refused("as(4, 1)", Due.KIND, Given::rolling, x -> x.as(4, 1));
        Given.refused("BAD ahead of KIND", Due.BAD, Given::rolling, x -> x.as(5, 5));
    }

    private static void ask() {
        Due.says("Promise 32", "An ASK (0, 1) of a TAP.");
        HoopLane x = all();
        int[] sizes = {7, -16, -989, -96, -190};
        int[] marks = {6, 14, -992, 99, 194};
        for (int tap = 0; tap < 5; tap++) {
            Due.is("ask(" + tap + ", 0)", sizes[tap], x.ask(tap, 0));
            Due.is("ask(" + tap + ", 1)", marks[tap], x.ask(tap, 1));
        }
    }

    private static void askRefused() {
        Due.says("Promise 32", "BAD.");
        Given.refused("ask(-1, 0)", Due.BAD, Given::rolling, x -> x.ask(-1, 0));
        Given.refused("ask(5, 0)", Due.BAD, Given::rolling, x -> x.ask(5, 0));
        Given.refused("ask(0, -1)", Due.BAD, Given::rolling, x -> x.ask(0, -1));
        Given.refused("ask(0, 2)", Due.BAD, Given::rolling, x -> x.ask(0, 2));
        Given.refused("ask(0, 0) of none", Due.BAD, () -> Due.told("h6,3,3,0;gff;"), x -> x.ask(0, 0));
        Given.refused("ask(0, 0), no LANE", Due.BAD, Given::noLane, x -> x.ask(0, 0));
    }

    private static void traceEmpty() {
        Due.says("Promise 32", "THE TRACE is empty ahead of it (where that is refused it stays).");
        HoopLane x = all();
        x.ask(1, 0);
        Due.is("trace(5)", 20, x.trace(5));
        x.ask(3, 0);
        Due.is("trace(0)", 13, x.trace(0));
        Due.is("trace(1)", 10, x.trace(1));
        Due.is("no more", Due.NONE, x.trace(2));
        x.ask(5, 0);
        x.ask(0, 2);
        Due.is("trace(0) stays", 13, x.trace(0));
        Due.is("trace(1) stays", 10, x.trace(1));
        Due.is("no more", Due.NONE, x.trace(2));
        x.moment(0);
        Due.read(x, ALL);
        Due.is("other calls leave it", 13, x.trace(0));
    }

    private static void traceNone() {
        Due.says("Promise 33", "Number i of THE TRACE; NONE.");
        HoopLane x = all();
        Due.is("trace(0), none asked", Due.NONE, x.trace(0));
        x.ask(3, 1);
        int[] bodies = {23, 20, 13, 10};
        for (int i = 0; i < 4; i++) {
            Due.is("trace(" + i + ")", bodies[i], x.trace(i));
        }
        int[] none = {-1, 4, 15, 16, 17, Integer.MIN_VALUE, Integer.MAX_VALUE};
        for (int i : none) {
            Due.is("trace(" + i + ")", Due.NONE, x.trace(i));
        }
        Due.is("trace(0), no LANE", Due.NONE, new HoopLane().trace(0));
    }

    private static void count() {
        Due.says("Promise 34", "How many: 0 ROWS, 1 YARDS, 2 TAPS, 3 HOLDS, 4 DRAG, 5 MOMENT, "
            + "6 ACTS that can be undone, 7 bytes on the tape.");
        HoopLane[] objects = {new HoopLane(), Given.noLane(), Given.rolling(), Given.down(), Given.home()};
        int[][] due = {{0, 0, 0, 0, 0, 0, 0, 0}, {4, 0, 0, 0, 0, 0, 0, 2}, {4, 13, 5, 3, 1, 2, 3, 2},
            {4, 13, 5, 3, 1, 4, 5, 2}, {4, 13, 5, 3, 1, 3, 5, 2}};
        for (int k = 0; k < objects.length; k++) {
            for (int what = 0; what < 8; what++) {
                Due.is("object " + k + ", count(" + what + ")", due[k][what], objects[k].count(what));
            }
        }
        HoopLane x = Due.told("h9,4,5,3;g" + "f".repeat(24) + ";v1;v1;v1;v1;v1;");
        for (int row = 0; row < 8; row++) {
            x.row(row, 2, 40);
        }
        for (int k = 0; k < 100; k++) {
            x.feed(0);
        }
        for (int k = 0; k < 30; k++) {
            x.lay(0, 0);
        }
        int[] most = {8, 24, 5, 5, 3, 0, 24, 100};
        for (int what = 0; what < 8; what++) {
            Due.is("the most, count(" + what + ")", most[what], x.count(what));
        }
    }

    private static void countRefused() {
        Due.says("Promise 34", "BAD.");
        Given.refused("count(-1)", Due.BAD, Given::rolling, x -> x.count(-1));
        Given.refused("count(8)", Due.BAD, Given::rolling, x -> x.count(8));
        Given.refused("count(8), no LANE", Due.BAD, Given::noLane, x -> x.count(8));
        Given.refused("count(min)", Due.BAD, Given::rolling, x -> x.count(Integer.MIN_VALUE));
        Given.refused("count(max)", Due.BAD, Given::rolling, x -> x.count(Integer.MAX_VALUE));
    }
}
