/** Each sentence on a boundary case: MOMENTS, ACTS, IMAGES, promises 9 to 15, 28 and 29. */
public final class BoundsMomentsTest {
    private static final String FLAT = "gffffffffffffffffffffffff;";

    public static void main(String[] args) {
        notDownNorHome();
        firstATap();
        driving();
        righting();
        nearer();
        hopping();
        hoppedGround();
        braking();
        rutted();
        paceIs();
        rolls();
        home();
        elseTheGround();
        downhill();
        uphill();
        rut();
        stone();
        wet();
        drag();
        slow();
        asItEnds();
        down();
        oneMore();
        keptActs();
        latestFirst();
        nothingAnother();
        actOfMoment();
        actOfSetUp();
        actOfGround();
        undo();
        undoNone();
        moment();
        momentRefused();
        momentFull();
        setUp();
        setUpRefused();
        lay();
        layRefused();
        hoop();
        hoopRefused();
        ground();
        groundRefused();
        force();
        forceRefused();
        image();
        imageRefused();
        restore();
        restoreRefused();
        Due.end();
    }

    /** One MOMENT by TAP 0, or none if there is none, of a hoop set up: YARD, PACE, LEAN, end behind it. */
    private static void after(String text, int yard, int pace, int lean, int... due) {
        HoopLane x = Given.standing(text, yard, pace, lean);
        String call = text + " from " + yard + ", " + pace + ", " + lean;
        Due.is(call, due[0], x.moment(x.count(2) == 0 ? -1 : 0));
        Due.hoop(call, x, due);
    }

    private static String all(char ground, int yards) {
        return "g" + String.valueOf(ground).repeat(yards) + ";";
    }

    // ---- a MOMENT

    private static void notDownNorHome() {
        Due.says("2", "A MOMENT, if the hoop is not DOWN, nor HOME:");
        Given.refused("moment(-1) DOWN", Due.STATE, Given::down, x -> x.moment(-1));
        Given.refused("moment(0) HOME", Due.STATE, Given::home, x -> x.moment(0));
        HoopLane x = Given.down();
        Due.is("none ahead, either", 6, x.ahead(9, 0));
        x.setUp(4, 9, 0);
        Due.is("set up, it goes on", 8, x.moment(-1));
    }

    private static void firstATap() {
        Due.says("2", "first a TAP, or none.");
        after("h5,2,5,0;" + FLAT, 0, 5, 0, 2, 5, 0, 0);
        after("h5,2,5,0;" + FLAT + "v1;", 0, 5, 0, 3, 6, 0, 0);
        after("h5,2,5,0;" + FLAT + "b3;", 0, 5, 2, 1, 2, 3, 0);
    }

    private static void driving() {
        Due.says("2", "A driving one: PACE is FORCE more.");
        after("h5,2,5,0;" + FLAT + "v1;", 0, 4, 1, 2, 5, 1, 0);
        after("h5,2,5,0;" + FLAT + "v5;", 0, 4, -1, 4, 9, -1, 0);
        after("h5,2,5,0;" + FLAT + "v5;", 0, 1, 3, 3, 6, 3, 0);
    }

    private static void righting() {
        Due.says("2", "A righting one: PACE is half of FORCE (cut) more,");
        int[] paces = {4, 5, 5, 6, 6};
        int[] yards = {2, 2, 2, 3, 3};
        for (int force = 1; force <= 5; force++) {
            after("h5,2,5,0;" + FLAT + "i" + force + ";", 0, 4, 0, yards[force - 1], paces[force - 1], 0, 0);
        }
    }

    private static void nearer() {
        Due.says("2", "and LEAN is FORCE nearer to 0 (no further than 0).");
        for (int force = 1; force <= 5; force++) {
            for (int lean = -5; lean <= 5; lean++) {
                HoopLane x = Given.standing("h5,2,5,0;" + FLAT + "i" + force + ";", 0, 5, lean);
                x.moment(0);
                int due = Math.abs(lean) <= force ? 0 : lean > 0 ? lean - force : lean + force;
                Due.is("LEAN " + lean + " by FORCE " + force, due, x.hoop(2));
            }
        }
    }

    private static void hopping() {
        Due.says("2", "A hopping one as a driving one;");
        after("h5,2,5,0;" + FLAT + "o1;", 0, 4, 1, 2, 5, 1, 0);
        after("h5,2,5,0;" + FLAT + "o5;", 0, 4, -1, 4, 9, -1, 0);
        after("h5,2,5,0;" + FLAT + "o5;", 0, 5, 0, 4, 9, 0, 0);
    }

    private static void hoppedGround() {
        Due.says("2", "and the GROUND it comes to in this MOMENT does nothing.");
        for (char ground : "fdursw".toCharArray()) {
            after("h5,2,5,0;" + all(ground, 24) + "o1;", 0, 5, 3, 3, 6, 3, 0);
            after("h5,2,5,0;" + all(ground, 24) + "o1;", 0, 5, 0, 3, 6, 0, 0);
            // DRAG, and the LEAN of one that is slow, are not of the GROUND.
            after("h5,2,5,2;" + all(ground, 24) + "o1;", 0, 4, 1, 2, 3, 2, 0);
        }
        HoopLane x = Given.standing("h5,2,5,0;" + all('s', 24) + "o1;", 0, 5, 0);
        x.moment(0);
        x.moment(-1);
        Due.hoop("in this MOMENT alone", x, 6, 6, 2, 0);
    }

    private static void braking() {
        Due.says("2", "A braking one: PACE is FORCE less.");
        after("h5,2,5,0;" + FLAT + "b1;", 0, 5, 2, 2, 4, 2, 0);
        after("h5,2,5,0;" + FLAT + "b5;", 0, 9, -2, 2, 4, -2, 0);
        after("h5,2,5,0;" + FLAT + "b5;", 0, 6, 1, 1, 1, 2, 0);
    }

    private static void rutted() {
        Due.says("2", "A rutted one so, too, and LEAN is 0.");
        after("h5,2,5,0;" + FLAT + "t1;", 0, 5, 5, 2, 4, 0, 0);
        after("h5,2,5,0;" + FLAT + "t5;", 0, 9, -5, 2, 4, 0, 0);
        after("h5,2,5,0;" + FLAT + "t5;", 0, 9, 0, 2, 4, 0, 0);
        after("h5,2,5,0;" + FLAT + "t2;", 0, 5, 5, 2, 3, 1, 0);
    }

    private static void paceIs() {
        Due.says("2", "PACE is 0 to 9.");
        after("h5,2,5,0;" + FLAT + "v5;", 0, 5, 0, 4, 9, 0, 0);
        after("h5,2,5,0;" + FLAT + "i5;", 0, 8, 0, 4, 9, 0, 0);
        after("h5,2,5,0;" + FLAT + "o5;", 0, 9, 0, 4, 9, 0, 0);
        after("h5,2,5,0;" + all('d', 24), 0, 8, 0, 3, 9, 0, 0);
        after("h5,2,5,0;" + FLAT + "b5;", 0, 4, 0, 1, 0, -1, 1);
        after("h5,2,5,0;" + FLAT + "t5;", 0, 5, 0, 1, 0, -1, 1);
        after("h5,2,5,3;" + FLAT, 0, 2, 0, 1, 0, -1, 1);
        // Each time that it becomes another.
        after("h5,2,5,0;" + all('u', 24) + "v5;", 0, 8, 0, 4, 8, 0, 0);
        after("h5,2,5,0;" + all('d', 24) + "b5;", 0, 3, 0, 1, 2, -1, 0);
        after("h5,2,5,1;" + all('d', 24), 0, 9, 0, 4, 8, 0, 0);
        after("h5,2,5,3;" + all('u', 24) + "b5;", 0, 2, 0, 1, 0, -1, 1);
    }

    private static void rolls() {
        Due.says("2", "Then it rolls a third of PACE (cut) and 1 more YARDS.");
        int[] yards = {1, 1, 1, 2, 2, 2, 3, 3, 3, 4};
        for (int pace = 1; pace <= 9; pace++) {
            Due.is("of PACE " + pace, yards[pace], Given.standing("h5,2,5,0;" + FLAT, 0, pace, 0).moment(-1));
            Due.is("on, of PACE " + pace, 7 + yards[pace], Given.standing("h5,2,5,0;" + FLAT, 7, pace, 0).moment(-1));
        }
        Due.is("of PACE 0", yards[0], Given.standing("h5,2,5,0;" + FLAT + "b5;", 0, 5, 0).moment(0));
    }

    private static void home() {
        Due.says("2", "If it is at, or beyond, how many YARDS there are, it is HOME.");
        String six = "h5,2,5,0;gffffff;";
        after(six, 3, 5, 0, 5, 5, 0, 0);
        after(six, 4, 5, 0, 6, 5, 0, 2);
        after(six, 5, 5, 0, 6, 5, 0, 2);
        after(six, 5, 1, 0, 6, 1, 0, 2);
        after(six, 4, 1, 0, 5, 1, -1, 0);
        after(six, 5, 9, 0, 6, 9, 0, 2);
        after("h5,2,5,0;gf;", 0, 1, 0, 1, 1, 0, 2);
        after("h5,2,5,0;" + FLAT, 22, 1, 0, 23, 1, -1, 0);
        after("h5,2,5,0;" + FLAT, 23, 1, 0, 24, 1, 0, 2);
    }

    private static void elseTheGround() {
        Due.says("2", "Else the GROUND there:");
        // HOME, nothing more is done, nor does it go DOWN.
        after("h5,2,5,3;gww;", 1, 3, 1, 2, 3, 1, 2);
        after("h5,2,1,3;gss;b5;", 1, 5, 1, 2, 0, 1, 2);
        HoopLane x = Due.told("h5,4,1,0;gff;");
        x.moment(-1);
        Due.hoop("LEAN beyond HOLDS as read", x, 2, 5, 2, 2);
        // The GROUND that it comes to, not that of where it was, nor of what it rolled over.
        after("h5,2,5,0;gfdsfff;", 0, 6, 0, 3, 6, 0, 0);
        after("h5,2,5,0;gfrrfff;", 0, 6, 1, 3, 6, 1, 0);
        after("h5,2,5,0;gsffffff;", 0, 6, 1, 3, 6, 1, 0);
        after("h5,2,5,0;gffffsff;", 0, 6, 0, 3, 6, 0, 0);
        after("h5,2,5,0;gfffsfff;", 0, 6, 0, 3, 6, 2, 0);
        after("h5,2,5,0;gffffrff;", 1, 6, 1, 4, 6, 0, 0);
    }

    private static void downhill() {
        Due.says("2", "down: PACE is 2 more;");
        after("h5,2,5,0;" + all('d', 24), 0, 4, 1, 2, 6, 1, 0);
        after("h5,2,5,0;" + all('d', 24), 0, 7, 0, 3, 9, 0, 0);
        after("h5,2,5,0;" + all('d', 24), 0, 2, 1, 1, 4, 1, 0);
        after("h5,2,5,0;" + all('d', 24), 0, 1, 1, 1, 3, 2, 0);
    }

    private static void uphill() {
        Due.says("2", "up: 1 less;");
        after("h5,2,5,0;" + all('u', 24), 0, 9, 1, 4, 8, 1, 0);
        after("h5,2,5,0;" + all('u', 24), 0, 5, 1, 2, 4, 1, 0);
        after("h5,2,5,0;" + all('u', 24), 0, 4, 1, 2, 3, 2, 0);
        after("h5,2,5,0;" + all('u', 24), 0, 1, 0, 1, 0, -1, 1);
    }

    private static void rut() {
        Due.says("2", "a rut: LEAN is 0;");
        after("h5,2,5,0;" + all('r', 24), 0, 5, 5, 2, 5, 0, 0);
        after("h5,2,5,0;" + all('r', 24), 0, 5, -5, 2, 5, 0, 0);
        after("h5,2,5,0;" + all('r', 24), 0, 5, 0, 2, 5, 0, 0);
        after("h5,2,5,0;" + all('r', 24), 0, 3, -5, 2, 3, 1, 0);
    }

    private static void stone() {
        Due.says("2", "a stone: LEAN is 2 further from 0 (of 0: 2);");
        after("h5,2,5,0;" + all('s', 24), 0, 5, 0, 2, 5, 2, 0);
        after("h5,2,5,0;" + all('s', 24), 1, 5, 0, 3, 5, 2, 0);
        after("h5,2,5,0;" + all('s', 24), 0, 5, 1, 2, 5, 3, 0);
        after("h5,2,5,0;" + all('s', 24), 0, 5, -1, 2, 5, -3, 0);
        after("h5,2,5,0;" + all('s', 24), 0, 5, 3, 2, 5, 5, 0);
        after("h5,2,5,0;" + all('s', 24), 0, 5, -3, 2, 5, -5, 0);
        after("h5,2,5,0;" + all('s', 24), 0, 5, 5, 2, 5, 7, 1);
        after("h5,2,5,0;" + all('s', 24), 0, 5, -5, 2, 5, -7, 1);
    }

    private static void wet() {
        Due.says("2", "wet: PACE is 1 less, LEAN is 1 further from 0 (of 0: -1).");
        after("h5,2,5,0;" + all('w', 24), 0, 5, 0, 2, 4, -1, 0);
        after("h5,2,5,0;" + all('w', 24), 1, 5, 0, 3, 4, -1, 0);
        after("h5,2,5,0;" + all('w', 24), 0, 9, 1, 4, 8, 2, 0);
        after("h5,2,5,0;" + all('w', 24), 0, 9, -1, 4, 8, -2, 0);
        after("h5,2,5,0;" + all('w', 24), 0, 4, 0, 2, 3, -2, 0);
        after("h5,2,5,0;" + all('w', 24), 0, 1, 0, 1, 0, -2, 1);
    }

    private static void drag() {
        Due.says("2", "Then PACE is DRAG less;");
        for (int drag = 0; drag <= 3; drag++) {
            after("h5,2,5," + drag + ";" + FLAT, 0, 9, 1, 4, 9 - drag, 1, 0);
            // Behind the GROUND.
            after("h5,2,5," + drag + ";" + all('d', 24), 0, 9, 1, 4, 9 - drag, 1, 0);
        }
        after("h5,2,5,3;" + FLAT, 0, 4, 0, 2, 1, 1, 0);
        after("h5,2,5,3;" + FLAT, 0, 3, 0, 2, 0, 1, 1);
    }

    private static void slow() {
        Due.says("2", "then, if PACE is below 4, LEAN is 1 further from 0 (of 0: 1, if YARD is even, else -1).");
        after("h5,2,5,0;" + FLAT, 0, 4, 0, 2, 4, 0, 0);
        after("h5,2,5,0;" + FLAT, 0, 3, 0, 2, 3, 1, 0);
        after("h5,2,5,0;" + FLAT, 1, 3, 0, 3, 3, -1, 0);
        after("h5,2,5,0;" + FLAT, 0, 2, 0, 1, 2, -1, 0);
        after("h5,2,5,0;" + FLAT, 1, 2, 0, 2, 2, 1, 0);
        after("h5,2,5,0;" + FLAT, 0, 3, 1, 2, 3, 2, 0);
        after("h5,2,5,0;" + FLAT, 0, 3, -1, 2, 3, -2, 0);
        after("h5,2,5,0;" + FLAT, 1, 3, 1, 3, 3, 2, 0);
        after("h5,2,5,0;" + FLAT, 0, 3, 4, 2, 3, 5, 0);
        // As PACE is behind DRAG.
        after("h5,2,5,1;" + FLAT, 0, 5, 0, 2, 4, 0, 0);
        after("h5,2,5,1;" + FLAT, 0, 4, 0, 2, 3, 1, 0);
    }

    private static void asItEnds() {
        Due.says("2", "As a MOMENT ends (not as it is read, set up)");
        HoopLane x = Due.told("h5,4,1,0;gffrfff;");
        Due.hoop("as it is read, LEAN 2 of HOLDS 1", x, 0, 5, 2, 0);
        Due.is("moment(-1)", 2, x.moment(-1));
        Due.hoop("by a rut", x, 2, 5, 0, 0);
        x = Due.told("h5,0,1,0;gffffff;i1;");
        Due.hoop("as it is read, LEAN -2 of HOLDS 1", x, 0, 5, -2, 0);
        Due.is("ahead(0, 3)", 0, x.ahead(0, 3));
        Due.is("ahead(1, 3)", 1, x.ahead(1, 3));
        x.moment(0);
        Due.hoop("by a righting one", x, 2, 5, -1, 0);
        // Beyond HOLDS within a MOMENT.
        after("h5,2,1,0;" + all('r', 24) + "b3;", 0, 5, 1, 1, 2, -1, 0);
        x = Given.standing("h5,2,1,0;gff;", 1, 1, 1);
        Due.hoop("set up of HOLDS, slow", x, 1, 1, 1, 0);
    }

    private static void down() {
        Due.says("2", "it is DOWN, if LEAN is more than HOLDS, or less than 0 less HOLDS, or PACE is 0.");
        for (int holds = 1; holds <= 5; holds++) {
            String law = "h5,2," + holds + ",0;";
            after(law + FLAT, 0, 4, holds, 2, 4, holds, 0);
            after(law + FLAT, 0, 4, 0 - holds, 2, 4, 0 - holds, 0);
            after(law + FLAT, 0, 3, holds, 2, 3, holds + 1, 1);
            after(law + FLAT, 0, 3, 0 - holds, 2, 3, 0 - holds - 1, 1);
            after(law + FLAT, 0, 3, holds - 1, 2, 3, holds, 0);
        }
        after("h5,2,5,1;" + FLAT, 0, 1, 0, 1, 0, -1, 1);
        after("h5,2,5,1;" + FLAT, 0, 2, 0, 1, 1, -1, 0);
        after("h5,2,5,3;" + FLAT, 0, 9, 5, 4, 6, 5, 0);
    }

    private static void oneMore() {
        Due.says("2", "MOMENT is 1 more.");
        HoopLane x = Due.told("h2,2,1,0;gfffff;");
        x.moment(-1);
        Due.is("one", 1, x.hoop(4));
        x.moment(-1);
        Due.hoop("two, DOWN", x, 2, 2, -2, 1, 2);
        x.moment(-1);
        Due.is("none by what is refused", 2, x.hoop(4));
        x.setUp(4, 9, 0);
        x.lay(0, 1);
        Due.is("none by other ACTS", 2, x.hoop(4));
        x.moment(-1);
        Due.hoop("three, HOME", x, 5, 9, 0, 2, 3);
        x.ahead(5, 0);
        Due.is("none by what is foretold", 3, x.count(5));
    }

    // ---- ACTS

    private static void keptActs() {
        Due.says("2", "ACTS (24 at most are kept, of more the oldest is forgotten;");
        for (int acts = 23; acts <= 26; acts++) {
            HoopLane x = Due.told("h5,2,3,0;" + FLAT);
            for (int k = 1; k <= acts; k++) {
                x.setUp(k % 24, 1 + k % 9, 0);
            }
            int kept = Math.min(24, acts);
            Due.is("kept of " + acts, kept, x.count(6));
            for (int k = kept - 1; k >= 0; k--) {
                Due.is("undo() of " + acts, k, x.undo());
            }
            Due.is("no more of " + acts, Due.STATE, x.undo());
            int forgotten = acts - kept;
            Due.is("YARD behind the forgotten of " + acts, forgotten, x.hoop(0));
            Due.is("PACE behind the forgotten of " + acts, forgotten == 0 ? 5 : 1 + forgotten, x.hoop(1));
        }
    }

    private static void latestFirst() {
        Due.says("2", "each can be undone, the latest first;");
        HoopLane x = Due.told("h5,2,3,0;" + FLAT);
        x.moment(-1);
        x.lay(5, 1);
        x.setUp(9, 2, 1);
        x.lay(5, 2);
        Due.is("undo()", 3, x.undo());
        Due.is("ground(5)", 1, x.ground(5));
        Due.hoop("still", x, 9, 2, 1, 0, 1);
        Due.is("undo()", 2, x.undo());
        Due.hoop("not set up", x, 2, 5, 0, 0, 1);
        Due.is("undo()", 1, x.undo());
        Due.is("ground(5)", 0, x.ground(5));
        Due.is("undo()", 0, x.undo());
        Due.hoop("no MOMENT", x, 0, 5, 0, 0, 0);
        x.setUp(3, 3, 3);
        x.undo();
        Due.hoop("one behind undone ones", x, 0, 5, 0, 0, 0);
    }

    private static void nothingAnother() {
        Due.says("2", "also such by which nothing becomes another):");
        HoopLane x = Due.told("h5,2,3,0;" + FLAT);
        x.lay(3, 0);
        Due.is("the same GROUND", 1, x.count(6));
        x.setUp(0, 5, 0);
        Due.is("the same hoop", 2, x.count(6));
        Due.is("undo()", 1, x.undo());
        Due.is("undo()", 0, x.undo());
        x.lay(3, 4);
        for (int k = 0; k < 24; k++) {
            x.lay(7, 0);
        }
        for (int k = 0; k < 24; k++) {
            x.undo();
        }
        Due.is("they make the oldest forgotten", 4, x.ground(3));
    }

    private static void actOfMoment() {
        Due.says("2", "a MOMENT;");
        HoopLane x = Given.standing("h5,2,1,0;" + FLAT + "t5;", 20, 9, 1);
        x.moment(0);
        Due.hoop("a MOMENT", x, 22, 4, 0, 0, 1);
        x.moment(-1);
        Due.hoop("HOME", x, 24, 4, 0, 2, 2);
        x.undo();
        Due.hoop("HOME undone", x, 22, 4, 0, 0, 1);
        Due.is("ACTS", 2, x.count(6));
        x.undo();
        Due.hoop("undone", x, 20, 9, 1, 0, 0);
        x.setUp(0, 3, 1);
        x.moment(-1);
        Due.hoop("DOWN", x, 2, 3, 2, 1, 1);
        x.undo();
        Due.hoop("DOWN undone", x, 0, 3, 1, 0, 0);
    }

    private static void actOfSetUp() {
        Due.says("2", "it is set up anew: at a YARD, of a PACE, a LEAN (not DOWN, not HOME; MOMENT goes on);");
        HoopLane x = Given.down();
        x.setUp(1, 2, -3);
        Due.hoop("not DOWN, MOMENT as it was", x, 1, 2, -3, 0, 4);
        Due.is("ACTS", 6, x.count(6));
        x.undo();
        Due.hoop("DOWN again", x, 6, 0, -2, 1, 4);
        x = Given.home();
        x.setUp(0, 9, 3);
        Due.hoop("not HOME, MOMENT as it was", x, 0, 9, 3, 0, 3);
        x.undo();
        Due.hoop("HOME again", x, 13, 9, 0, 2, 3);
    }

    private static void actOfGround() {
        Due.says("2", "the GROUND of a YARD is another one.");
        HoopLane x = Given.home();
        x.lay(0, 5);
        x.lay(12, 4);
        Due.is("ACTS", 7, x.count(6));
        Due.hoop("the hoop stays", x, 13, 9, 0, 2, 3);
        x.undo();
        Due.is("ground(12)", 0, x.ground(12));
        Due.is("ground(0)", 5, x.ground(0));
        x.undo();
        Due.is("ground(0)", 0, x.ground(0));
    }

    // ---- promises 9 to 15

    private static void undo() {
        Due.says("Promise 9", "The latest ACT is undone: how many can be undone yet.");
        HoopLane x = Given.rolling();
        Due.is("undo()", 2, x.undo());
        Due.hoop("no second MOMENT", x, 2, 4, 1, 0, 1);
        Due.is("undo()", 1, x.undo());
        Due.is("ground(9)", 0, x.ground(9));
        Due.is("undo()", 0, x.undo());
        Due.hoop("no MOMENT", x, 0, 5, 1, 0, 0);
        Due.is("count(6)", 0, x.count(6));
    }

    private static HoopLane noAct() {
        HoopLane x = Given.rolling();
        x.undo();
        x.undo();
        x.undo();
        return x;
    }

    private static void undoNone() {
        Due.says("Promise 9", "STATE: none.");
        Given.refused("undo(), all undone", Due.STATE, BoundsMomentsTest::noAct, x -> x.undo());
        Given.refused("undo(), no LANE", Due.STATE, Given::noLane, x -> x.undo());
        Given.refused("undo(), just read", Due.STATE, () -> Due.told("h5,2,3,0;gff;"), x -> x.undo());
    }

    private static void moment() {
        Due.says("Promise 10", "A MOMENT with a TAP, or none: YARD.");
        int[] yards = {6, 7, 6, 7, 5, 6};
        for (int tap = -1; tap < 5; tap++) {
            HoopLane x = Given.rolling();
            Due.is("moment(" + tap + ")", yards[tap + 1], x.moment(tap));
            Due.is("hoop(0)", yards[tap + 1], x.hoop(0));
        }
        HoopLane x = Given.rolling();
        x.setUp(12, 9, 0);
        Due.is("HOME", 13, x.moment(-1));
    }

    private static void momentRefused() {
        Due.says("Promise 10", "BAD; STATE: no LANE (ahead of BAD), it is DOWN, HOME;");
        Given.refused("moment(-2)", Due.BAD, Given::rolling, x -> x.moment(-2));
        Given.refused("moment(5)", Due.BAD, Given::rolling, x -> x.moment(5));
        Given.refused("moment(min)", Due.BAD, Given::rolling, x -> x.moment(Integer.MIN_VALUE));
        Given.refused("moment(0), no TAPS", Due.BAD, () -> Due.told("h5,2,3,0;gff;"), x -> x.moment(0));
        Given.refused("moment(-2), no LANE", Due.STATE, Given::noLane, x -> x.moment(-2));
        Given.refused("moment(-1), no LANE", Due.STATE, Given::noLane, x -> x.moment(-1));
        Given.refused("moment(4) DOWN", Due.STATE, Given::down, x -> x.moment(4));
        Given.refused("moment(-1) HOME", Due.STATE, Given::home, x -> x.moment(-1));
        Given.refused("moment(5) DOWN", Due.BAD, Given::down, x -> x.moment(5));
        Given.refused("moment(-2) HOME", Due.BAD, Given::home, x -> x.moment(-2));
    }

    /** MOMENT 999 comes after more calls than are promised: tested all the same, as the document names it. */
    private static HoopLane lastMoment() {
        HoopLane x = Due.told("h1,2,1,0;grrrrrrrrrrrr;");
        for (int k = 0; k < 999; k++) {
            if (k % 11 == 0) {
                x.setUp(0, 1, 0);
            }
            x.moment(-1);
        }
        return x;
    }

    private static void momentFull() {
        Due.says("Promise 10", "FULL: MOMENT is 999.");
        HoopLane x = lastMoment();
        Due.hoop("at MOMENT 999", x, 9, 1, -1, 0, 999);
        Due.is("moment(-1)", Due.FULL, x.moment(-1));
        Due.hoop("as it was", x, 9, 1, -1, 0, 999);
        Due.is("BAD ahead of FULL", Due.BAD, x.moment(0));
        x.undo();
        Due.is("998", 998, x.hoop(4));
        x.setUp(11, 1, 0);
        Due.is("the last one", 12, x.moment(-1));
        Due.is("STATE ahead of FULL", Due.STATE, x.moment(-1));
        x.setUp(0, 1, 0);
        Due.is("setUp() is no MOMENT", 999, x.hoop(4));
        Due.is("moment(-1)", Due.FULL, x.moment(-1));
    }

    private static void setUp() {
        Due.says("Promise 11",
            "It is set up anew (YARD that there is, PACE 1 to 9, LEAN -5 to 5, not beyond HOLDS): YARD as it was.");
        HoopLane x = Due.told("h5,2,5,0;gffffff;");
        Due.is("setUp(5, 9, 5)", 0, x.setUp(5, 9, 5));
        Due.hoop("the most", x, 5, 9, 5, 0, 0);
        Due.is("setUp(0, 1, -5)", 5, x.setUp(0, 1, -5));
        Due.hoop("the least", x, 0, 1, -5, 0, 0);
        Due.is("YARD as it was, HOME", 13, Given.home().setUp(3, 3, 3));
        Due.is("YARD as it was, DOWN", 6, Given.down().setUp(3, 3, 3));
        for (int holds = 1; holds <= 5; holds++) {
            x = Due.told("h5,2," + holds + ",0;gffffff;");
            Due.is("LEAN of HOLDS", 0, x.setUp(0, 5, holds));
            Due.is("LEAN of less HOLDS", 0, x.setUp(0, 5, 0 - holds));
            Due.is("LEAN beyond HOLDS", Due.BAD, x.setUp(0, 5, holds + 1));
            Due.is("LEAN beyond less HOLDS", Due.BAD, x.setUp(0, 5, 0 - holds - 1));
        }
    }

    private static void setUpRefused() {
        Due.says("Promise 11", "BAD; STATE: no LANE (ahead of BAD).");
        Given.refused("setUp(-1, 5, 0)", Due.BAD, Given::rolling, x -> x.setUp(-1, 5, 0));
        Given.refused("setUp(13, 5, 0)", Due.BAD, Given::rolling, x -> x.setUp(13, 5, 0));
        Given.refused("setUp(0, 0, 0)", Due.BAD, Given::rolling, x -> x.setUp(0, 0, 0));
        Given.refused("setUp(0, 10, 0)", Due.BAD, Given::rolling, x -> x.setUp(0, 10, 0));
        Given.refused("setUp(0, 5, 4)", Due.BAD, Given::rolling, x -> x.setUp(0, 5, 4));
        Given.refused("setUp(0, 5, -4)", Due.BAD, Given::rolling, x -> x.setUp(0, 5, -4));
        Given.refused("setUp(0, 5, min)", Due.BAD, Given::rolling, x -> x.setUp(0, 5, Integer.MIN_VALUE));
        Given.refused("setUp(0, 5, 0), no LANE", Due.STATE, Given::noLane, x -> x.setUp(0, 5, 0));
        Given.refused("setUp(-1, 0, 9), no LANE", Due.STATE, Given::noLane, x -> x.setUp(-1, 0, 9));
    }

    private static void lay() {
        Due.says("Promise 12", "The GROUND of a YARD (0 flat, 1 down, 2 up, 3 a rut, 4 a stone, 5 wet): what it was.");
        HoopLane x = Due.told("h6,3,5,0;gfdurswfff;");
        for (int yard = 0; yard < 6; yard++) {
            Due.is("lay(" + yard + ", 0)", yard, x.lay(yard, 0));
            Due.is("ground(" + yard + ")", 0, x.ground(yard));
        }
        int[][] behind = {{3, 6, 1}, {3, 8, 1}, {3, 5, 1}, {3, 6, 0}, {3, 6, 3}, {3, 5, 2}};
        for (int ground = 0; ground <= 5; ground++) {
            Due.is("lay(3, " + ground + ")", Math.max(0, ground - 1), x.lay(3, ground));
            x.setUp(0, 6, 1);
            x.moment(-1);
            Due.hoop("on " + ground, x, behind[ground]);
        }
        Due.is("the last YARD", 0, x.lay(8, 5));
        Due.is("DOWN", 3, Given.down().lay(9, 0));
        Due.is("HOME", 3, Given.home().lay(9, 0));
    }

    private static void layRefused() {
        Due.says("Promise 12", "BAD; STATE: no LANE (ahead of BAD).");
        Given.refused("lay(-1, 0)", Due.BAD, Given::rolling, x -> x.lay(-1, 0));
        Given.refused("lay(13, 0)", Due.BAD, Given::rolling, x -> x.lay(13, 0));
        Given.refused("lay(0, -1)", Due.BAD, Given::rolling, x -> x.lay(0, -1));
        Given.refused("lay(0, 6)", Due.BAD, Given::rolling, x -> x.lay(0, 6));
        Given.refused("lay(max, 0)", Due.BAD, Given::rolling, x -> x.lay(Integer.MAX_VALUE, 0));
        Given.refused("lay(13, 0), HOME there", Due.BAD, Given::home, x -> x.lay(13, 0));
        Given.refused("lay(0, 0), no LANE", Due.STATE, Given::noLane, x -> x.lay(0, 0));
        Given.refused("lay(-1, 6), no LANE", Due.STATE, Given::noLane, x -> x.lay(-1, 6));
    }

    private static void hoop() {
        Due.says("Promise 13", "0 YARD, 1 PACE, 2 LEAN, 3 whether DOWN (1), HOME (2), neither (0), 4 MOMENT.");
        Due.hoop("neither", Given.rolling(), 4, 4, 0, 0, 2);
        Due.hoop("DOWN", Given.down(), 6, 0, -2, 1, 4);
        Due.hoop("HOME", Given.home(), 13, 9, 0, 2, 3);
    }

    private static void hoopRefused() {
        Due.says("Promise 13", "BAD; STATE: no LANE (ahead of BAD).");
        Given.refused("hoop(-1)", Due.BAD, Given::rolling, x -> x.hoop(-1));
        Given.refused("hoop(5)", Due.BAD, Given::rolling, x -> x.hoop(5));
        Given.refused("hoop(5) DOWN", Due.BAD, Given::down, x -> x.hoop(5));
        Given.refused("hoop(0), no LANE", Due.STATE, Given::noLane, x -> x.hoop(0));
        Given.refused("hoop(5), no LANE", Due.STATE, Given::noLane, x -> x.hoop(5));
    }

    private static void ground() {
        Due.says("Promise 14", "The GROUND of a YARD.");
        HoopLane x = Due.told("h5,2,3,0;gwsrudf;");
        for (int yard = 0; yard < 6; yard++) {
            Due.is("ground(" + yard + ")", 5 - yard, x.ground(yard));
        }
        Due.is("the last of 24", 5, Due.told("h5,2,3,0;g" + "f".repeat(23) + "w;").ground(23));
        Due.is("DOWN", 3, Given.down().ground(9));
    }

    private static void groundRefused() {
        Due.says("Promise 14", "BAD.");
        Given.refused("ground(-1)", Due.BAD, Given::rolling, x -> x.ground(-1));
        Given.refused("ground(13)", Due.BAD, Given::rolling, x -> x.ground(13));
        Given.refused("ground(24)", Due.BAD, () -> Due.told("h5,2,3,0;" + FLAT), x -> x.ground(24));
        Given.refused("ground(13), HOME there", Due.BAD, Given::home, x -> x.ground(13));
        Given.refused("ground(0), no LANE", Due.BAD, Given::noLane, x -> x.ground(0));
        Given.refused("ground(min)", Due.BAD, Given::rolling, x -> x.ground(Integer.MIN_VALUE));
    }

    private static void force() {
        Due.says("Promise 15", "FORCE of a TAP.");
        int[] forces = {3, 2, 4, 2, 1};
        for (int tap = 0; tap < 5; tap++) {
            Due.is("force(" + tap + ")", forces[tap], Given.rolling().force(tap));
        }
        Due.is("the most", 5, Due.told("h5,2,3,0;gf;t5;").force(0));
    }

    private static void forceRefused() {
        Due.says("Promise 15", "BAD.");
        Given.refused("force(-1)", Due.BAD, Given::rolling, x -> x.force(-1));
        Given.refused("force(5)", Due.BAD, Given::rolling, x -> x.force(5));
        Given.refused("force(1) of one TAP", Due.BAD, () -> Due.told("h5,2,3,0;gf;t5;"), x -> x.force(1));
        Given.refused("force(0) of none", Due.BAD, () -> Due.told("h5,2,3,0;gf;"), x -> x.force(0));
        Given.refused("force(0), no LANE", Due.BAD, Given::noLane, x -> x.force(0));
        Given.refused("force(max)", Due.BAD, Given::rolling, x -> x.force(Integer.MAX_VALUE));
    }

    // ---- promises 28, 29

    private static void image() {
        Due.says("Promise 28", "An IMAGE (0, 1) is kept of the LANE: 1.");
        HoopLane x = Given.rolling();
        Due.is("image(1)", 1, x.image(1));
        Due.is("the ACTS stay", 3, x.count(6));
        x.moment(-1);
        x.lay(0, 4);
        Due.is("image(0), in place of one", 1, x.image(0));
        x.restore(1);
        Due.hoop("IMAGE 1", x, 4, 4, 0, 0, 2);
        Due.is("IMAGE 1, ground(0)", 0, x.ground(0));
        x.restore(0);
        Due.hoop("IMAGE 0", x, 6, 3, 1, 0, 3);
        Due.is("IMAGE 0, ground(0)", 4, x.ground(0));
        x = Given.home();
        Due.is("image(1) HOME", 1, x.image(1));
        x = Given.down();
        Due.is("image(1) DOWN", 1, x.image(1));
        x.setUp(0, 1, 0);
        x.restore(1);
        Due.hoop("DOWN, as it was kept", x, 6, 0, -2, 1, 4);
    }

    private static void imageRefused() {
        Due.says("Promise 28", "BAD; STATE: no LANE.");
        Given.refused("image(-1)", Due.BAD, Given::rolling, x -> x.image(-1));
        Given.refused("image(2)", Due.BAD, Given::rolling, x -> x.image(2));
        Given.refused("image(-1), no LANE", Due.BAD, Given::noLane, x -> x.image(-1));
        Given.refused("image(2), no LANE", Due.BAD, Given::noLane, x -> x.image(2));
        Given.refused("image(0), no LANE", Due.STATE, Given::noLane, x -> x.image(0));
        Given.refused("image(1), no LANE", Due.STATE, Given::noLane, x -> x.image(1));
    }

    private static void restore() {
        Due.says("Promise 29", "The LANE is as an IMAGE kept it (no ACT can be undone then): 1.");
        HoopLane x = Given.rolling();
        x.image(1);
        x.lane();
        Due.read(x, "h9,4,5,3;gwwww;b5;");
        x.moment(-1);
        Due.is("restore(1)", 1, x.restore(1));
        Due.is("no ACT", 0, x.count(6));
        Due.is("undo()", Due.STATE, x.undo());
        Due.hoop("the hoop", x, 4, 4, 0, 0, 2);
        int[] counts = {4, 13, 5, 3, 1, 2, 0, 0};
        for (int what = 0; what < 8; what++) {
            Due.is("count(" + what + ")", counts[what], x.count(what));
        }
        Due.is("ground(9)", 3, x.ground(9));
        Due.is("ground(0)", 0, x.ground(0));
        Due.is("kind(4)", 5, x.kind(4));
        Due.is("force(4)", 1, x.force(4));
        x.moment(-1);
        x.lay(9, 0);
        Due.is("restore(1) again", 1, x.restore(1));
        Due.hoop("what was done since is not kept", x, 4, 4, 0, 0, 2);
        Due.is("ground(9)", 3, x.ground(9));
    }

    private static void restoreRefused() {
        Due.says("Promise 29", "BAD; STATE: none was kept.");
        Given.refused("restore(-1)", Due.BAD, Given::rolling, x -> x.restore(-1));
        Given.refused("restore(2)", Due.BAD, Given::rolling, x -> x.restore(2));
        Given.refused("restore(2), no LANE", Due.BAD, Given::noLane, x -> x.restore(2));
        Given.refused("restore(1), none kept of it", Due.STATE, Given::rolling, x -> x.restore(1));
        Given.refused("restore(0), no LANE", Due.STATE, Given::noLane, x -> x.restore(0));
        Given.refused("restore(1), a new object", Due.STATE, HoopLane::new, x -> x.restore(1));
    }
}
