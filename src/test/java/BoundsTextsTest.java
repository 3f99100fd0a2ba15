/** Each sentence on a boundary case: texts, their FAULTS, promises 6 to 8. */
public final class BoundsTextsTest {
    private static final String LAW = "h5,3,3,1;";

    public static void main(String[] args) {
        tape();
        letters();
        numbers();
        signs();
        nothingElse();
        tapsOrNone();
        law();
        groundsMany();
        groundsAre();
        twentyFifth();
        sortsAndForces();
        tapsMany();
        inPlace();
        moment();
        hoopAsTold();
        noAct();
        imagesAndRows();
        firstToken();
        leastFault();
        cannotStand();
        threeFigures();
        theEnd();
        wrongNumber();
        noRoom();
        feed();
        feedRefused();
        lane();
        laneFault();
        latestFault();
        Due.end();
    }

    private static void reads(String text, int taps) {
        HoopLane x = new HoopLane();
        Due.is("lane() of " + text, taps, Due.read(x, text));
        Due.is("fault() of " + text, 0, x.fault());
    }

    private static void fault(String text, int number, int place) {
        HoopLane x = new HoopLane();
        Due.is("lane() of " + text, -1000100 - place, Due.read(x, text));
        Due.is("fault() of " + text, number, x.fault());
    }

    // ---- TEXTS

    private static void tape() {
        Due.says("1", "TEXTS: THE TAPE has at most 100 bytes, that come one by one;");
        HoopLane x = new HoopLane();
        for (int k = 1; k <= 100; k++) {
            Due.is("byte " + k, k, x.feed(k));
            Due.is("count(7) by byte " + k, k, x.count(7));
        }
        Due.is("byte 101", Due.FULL, x.feed(101));
        Due.is("count(7)", 100, x.count(7));
        HoopLane y = new HoopLane();
        Due.feed(y, "h5,3,");
        y.row(0, 0, 1);
        y.fault();
        Due.feed(y, "3,1;gf");
        y.hoop(0);
        Due.feed(y, "f;");
        Due.is("told in pieces", 0, y.lane());
        Due.is("two YARDS", 2, y.count(1));
    }

    private static void letters() {
        Due.says("1", "TOKENS: letters a to z (each by itself),");
        reads(LAW + "gfff;", 0);
        fault("a5,3,3,1;gf;", 1, 0);
        fault(LAW + "gfz;", 1, 11);
        fault(LAW + "gfa;", 1, 11);
        fault("hh", 1, 1);
        fault(LAW + "gf;vv1;", 1, 13);
        // What stands beside a and z, and the great ones, are none.
        fault(LAW + "gf`;", 1, 11);
        fault(LAW + "gf{;", 1, 11);
        fault("H5,3,3,1;gf;", 1, 0);
        fault(LAW + "gF;", 1, 10);
        fault(LAW + "gf;V1;", 1, 12);
    }

    private static void numbers() {
        Due.says("1", "NUMBERS (figures, 2 at most),");
        reads("h9,0,5,0;gf;", 0);
        reads("h09,00,05,00;gf;v05;", 1);
        HoopLane x = Due.told("h09,04,05,03;gf;v05;");
        Due.hoop("of two figures", x, 0, 9, 2, 0, 0);
        Due.is("HOLDS of two figures", 5, x.count(3));
        Due.is("DRAG of two figures", 3, x.count(4));
        Due.is("FORCE of two figures", 5, x.force(0));
        fault("h009,0,5,0;gf;", 1, 1);
        fault("h/,0,5,0;gf;", 1, 1);
        fault("h:,0,5,0;gf;", 1, 1);
        fault("h-1,0,5,0;gf;", 1, 1);
        fault("h 5,0,5,0;gf;", 1, 1);
        fault("h5 ,0,5,0;gf;", 1, 2);
    }

    private static void signs() {
        Due.says("1", "SIGNS , and ;");
        reads(LAW + "gf;v1;", 1);
        fault("h5;3,3,1;gf;", 1, 2);
        fault("h5,3,3,1,gf;", 1, 8);
        fault("h5,,3,3,1;", 1, 3);
        fault(LAW + "gf,", 1, 11);
        fault(LAW + "gf;v1,", 1, 14);
        fault(LAW + ";gf;", 1, 9);
        // What stands beside them.
        fault("h5+3,3,1;gf;", 1, 2);
        fault("h5.3,3,1;gf;", 1, 2);
        fault("h5,3,3,1<gf;", 1, 8);
        fault("h5,3,3,1:gf;", 1, 8);
    }

    /** A byte within a text that is else as told. */
    private static void strange(int letter, int place) {
        HoopLane x = new HoopLane();
        String text = LAW + "gff;v1;";
        for (int k = 0; k < text.length(); k++) {
            x.feed(k == place ? letter : text.charAt(k));
        }
        Due.is("byte " + letter + " at " + place, -1000100 - place, x.lane());
        Due.is("byte " + letter + " at " + place, 1, x.fault());
    }

    private static void nothingElse() {
        Due.says("1", "nothing else.");
        int[] letters = {0, 9, 10, 32, 127, 128, 255};
        for (int letter : letters) {
            strange(letter, 0);
            strange(letter, 1);
            strange(letter, 2);
            strange(letter, 11);
            strange(letter, 13);
        }
        fault(LAW + "gff; ", 1, 13);
        fault(LAW + "gff;v1; ", 1, 16);
        fault(LAW + "gff;v1;\n", 1, 16);
    }

    private static void tapsOrNone() {
        Due.says("1", "lane: law grounds { tap }.");
        reads(LAW + "gf;", 0);
        reads(LAW + "gf;v1;", 1);
        reads(LAW + "gf;v1;v1;", 2);
        fault("gf;", 1, 0);
        fault(LAW, 1, 9);
        fault(LAW + "v1;", 1, 9);
        fault(LAW + LAW + "gf;", 1, 9);
        fault(LAW + "gf;gf;", 1, 12);
        fault(LAW + "gf;v1;gf;", 1, 15);
        fault(LAW + "gf;;", 1, 12);
        fault(LAW + "gf;,", 1, 12);
        fault(LAW + "gf;1;", 1, 12);
    }

    private static void lawIs(String text, int pace, int lean, int holds, int drag) {
        HoopLane x = Due.told(text + "gf;");
        Due.is("PACE of " + text, pace, x.hoop(1));
        Due.is("LEAN of " + text, lean, x.hoop(2));
        Due.is("HOLDS of " + text, holds, x.count(3));
        Due.is("DRAG of " + text, drag, x.count(4));
    }

    private static void law() {
        Due.says("1", "law: h PACE , LEAN , HOLDS , DRAG ; (1 to 9; 0 to 4, less 2; 1 to 5; 0 to 3).");
        lawIs("h1,0,1,0;", 1, -2, 1, 0);
        lawIs("h9,4,5,3;", 9, 2, 5, 3);
        lawIs("h5,2,3,1;", 5, 0, 3, 1);
        lawIs("h5,1,3,1;", 5, -1, 3, 1);
        fault("h0,3,3,1;gf;", 2, 1);
        fault("h10,3,3,1;gf;", 2, 1);
        fault("h5,5,3,1;gf;", 2, 3);
        fault("h5,3,0,1;gf;", 2, 5);
        fault("h5,3,6,1;gf;", 2, 5);
        fault("h5,3,3,4;gf;", 2, 7);
    }

    private static void groundsMany() {
        Due.says("1", "grounds: g and 1 to 24 letters ;");
        fault(LAW + "g;", 1, 10);
        for (int yards = 1; yards <= 24; yards++) {
            HoopLane x = Due.told(LAW + "g" + "w".repeat(yards) + ";");
            Due.is("YARDS", yards, x.count(1));
            Due.is("the last of " + yards, 5, x.ground(yards - 1));
            Due.is("behind the last of " + yards, Due.BAD, x.ground(yards));
        }
    }

    private static void groundsAre() {
        Due.says("1", "(f flat, d down, u up, r a rut, s a stone, w wet: YARDS 0, 1, ..;");
        HoopLane x = Due.told(LAW + "gfdursw;");
        for (int yard = 0; yard < 6; yard++) {
            Due.is("ground(" + yard + ")", yard, x.ground(yard));
        }
        Due.is("ground(-1)", Due.BAD, x.ground(-1));
        Due.is("ground(6)", Due.BAD, x.ground(6));
        for (char c = 'a'; c <= 'z'; c++) {
            if ("fdursw".indexOf(c) < 0) {
                fault(LAW + "gf" + c + ";", 1, 11);
            }
        }
    }

    private static void twentyFifth() {
        Due.says("1", "a twenty-fifth one can not stand there).");
        reads(LAW + "g" + "f".repeat(24) + ";", 0);
        fault(LAW + "g" + "f".repeat(25) + ";", 1, 34);
        fault(LAW + "g" + "f".repeat(25), 1, 34);
        fault(LAW + "g" + "f".repeat(26) + ";", 1, 34);
        fault(LAW + "g" + "f".repeat(24) + "x", 1, 34);
        fault(LAW + "g" + "f".repeat(24), 1, 34);
    }

    private static void sortsAndForces() {
        Due.says("1", "tap: SORT FORCE ; (SORT: v a driving one, i a righting one, o a hopping one, b a braking one, "
            + "t a rutted one; 1 to 5;");
        HoopLane x = Due.told(LAW + "gf;v1;i2;o3;b4;t5;");
        for (int tap = 0; tap < 5; tap++) {
            Due.is("kind(" + tap + ")", tap + 1, x.kind(tap));
            Due.is("force(" + tap + ")", tap + 1, x.force(tap));
        }
        for (char c = 'a'; c <= 'z'; c++) {
            if ("viobt".indexOf(c) < 0) {
                fault(LAW + "gf;" + c + "1;", 1, 12);
            }
        }
        for (char sort : "viobt".toCharArray()) {
            reads(LAW + "gf;" + sort + "1;", 1);
            reads(LAW + "gf;" + sort + "5;", 1);
            fault(LAW + "gf;" + sort + "0;", 2, 13);
            fault(LAW + "gf;" + sort + "6;", 2, 13);
        }
    }

    private static void tapsMany() {
        Due.says("1", "TAPS 0 .. 4, 5 at most).");
        reads(LAW + "gf;v1;v2;v3;v4;v5;", 5);
        fault(LAW + "gf;v1;v2;v3;v4;v5;v1;", 3, 27);
        HoopLane x = Due.told(LAW + "gf;v1;v2;v3;v4;v5;");
        Due.is("force(0)", 1, x.force(0));
        Due.is("force(4)", 5, x.force(4));
        Due.is("force(5)", Due.BAD, x.force(5));
        Due.is("count(2)", 5, x.count(2));
        Due.is("none: force(0)", Due.BAD, Due.told(LAW + "gf;").force(0));
    }

    private static void inPlace() {
        Due.says("1", "A LANE that is read stands in place of the one before (none at first):");
        HoopLane x = new HoopLane();
        Due.is("none at first", 0, x.count(1));
        Due.read(x, "h9,4,5,3;gdurswdurswdurswdurswdurs;v1;i2;o3;b4;t5;");
        Due.is("lane()", 1, Due.read(x, "h1,2,1,0;gff;b2;"));
        Due.is("YARDS", 2, x.count(1));
        Due.is("ground(0)", 0, x.ground(0));
        Due.is("ground(2)", Due.BAD, x.ground(2));
        Due.is("TAPS", 1, x.count(2));
        Due.is("kind(0)", 4, x.kind(0));
        Due.is("kind(1)", Due.BAD, x.kind(1));
        Due.is("HOLDS", 1, x.count(3));
        Due.is("DRAG", 0, x.count(4));
    }

    private static void moment() {
        Due.says("1", "MOMENT 0,");
        HoopLane x = Given.rolling();
        x.lane();
        Due.is("ahead of it", 2, x.hoop(4));
        Due.read(x, LAW + "gf;");
        Due.is("hoop(4)", 0, x.hoop(4));
        Due.is("count(5)", 0, x.count(5));
    }

    private static void hoopAsTold() {
        Due.says("1", "the hoop at YARD 0, of that PACE, that LEAN (-2 to 2);");
        HoopLane[] objects = {Given.noLane(), Given.rolling(), Given.down(), Given.home()};
        for (HoopLane x : objects) {
            x.lane();
            Due.read(x, "h7,0,1,0;gff;");
            Due.hoop("LEAN -2", x, 0, 7, -2, 0, 0);
            Due.read(x, "h1,4,1,0;gff;");
            Due.hoop("LEAN 2", x, 0, 1, 2, 0, 0);
        }
    }

    private static void noAct() {
        Due.says("1", "no ACT can be undone;");
        HoopLane x = Given.rolling();
        x.lane();
        Due.is("ACTS", 3, x.count(6));
        Due.read(x, LAW + "gff;");
        Due.is("no ACTS", 0, x.count(6));
        Due.is("undo()", Due.STATE, x.undo());
        x.lay(1, 1);
        Due.is("one of the new LANE", 0, x.undo());
        Due.is("and no more", Due.STATE, x.undo());
    }

    private static void imagesAndRows() {
        Due.says("1", "IMAGES and ROWS stay.");
        HoopLane x = Given.rolling();
        x.lane();
        x.image(1);
        Due.read(x, "h1,2,5,0;gffffff;");
        Due.is("ROWS", 4, x.count(0));
        Due.is("an ITEM of 1", 2 + 4, x.seen(0, 0, 1, 0));
        Due.is("an ITEM of 4", 512, x.seen(0, 3, 1, 0));
        Due.is("how many of row 2", 3, x.drop(2));
        Due.is("restore(1)", 1, x.restore(1));
        Due.hoop("IMAGE 1", x, 4, 4, 0, 0, 2);
        Due.is("restore(0)", 1, x.restore(0));
        Due.hoop("IMAGE 0", x, 0, 5, 1, 0, 0);
    }

    // ---- FAULTS

    private static void firstToken() {
        Due.says("1", "FAULTS, the first TOKEN that has one (its first byte),");
        fault("h0,9,9,9;g;v0;", 2, 1);
        fault("h5,9,9,9;g;v0;", 2, 3);
        fault("h5,3,9,9;g;v0;", 2, 5);
        fault("h5,3,3,9;g;v0;", 2, 7);
        fault("h5,3,3,1;g;v0;", 1, 10);
        fault("h5,3,3,1;gf;v0;x", 2, 13);
        fault("h5,3,3,1;gf;x0;v6;", 1, 12);
        // A number's first byte, whether its value or what stands behind it is wrong.
        fault("h10,3,3,1;gf;", 2, 1);
        fault("h5,3,03,44;gf;", 2, 8);
        fault("h05;", 1, 3);
        fault("h00;", 2, 1);
        fault("h99", 2, 1);
    }

    private static void leastFault() {
        Due.says("1", "of one TOKEN the least:");
        // A number that can not stand there, and is not as told of any.
        fault("99", 1, 0);
        fault(LAW + "g99;", 1, 10);
        fault(LAW + "gf;99;", 1, 12);
        // Three figures, no value as told.
        fault("h999,3,3,1;gf;", 1, 1);
        fault(LAW + "gf;v000;", 1, 13);
        // Where no sixth tap has room, what is no tap at all.
        fault(LAW + "gf;v1;v1;v1;v1;v1;f1;", 1, 27);
        fault(LAW + "gf;v1;v1;v1;v1;v1;66;", 1, 27);
        fault(LAW + "gf;v1;v1;v1;v1;v1;;", 1, 27);
    }

    private static void cannotStand() {
        Due.says("1", "1 it cannot stand there, or is none");
        fault("v1;", 1, 0);
        fault(",", 1, 0);
        fault("7", 1, 0);
        fault("hg", 1, 1);
        fault("h,", 1, 1);
        fault("h5h", 1, 2);
        fault("h5,3,3,1;h", 1, 9);
        fault(LAW + "gg;", 1, 10);
        fault(LAW + "g1;", 1, 10);
        fault(LAW + "gf1;", 1, 11);
        fault(LAW + "gf;v;", 1, 13);
        fault(LAW + "gf;v1v1;", 1, 14);
        fault("#", 1, 0);
        fault("h5,3,3,1;g#", 1, 10);
    }

    private static void threeFigures() {
        Due.says("1", "(a run of three figures, at its first;");
        fault("h005,3,3,1;gf;", 1, 1);
        fault("h5,003,3,1;gf;", 1, 3);
        fault("h5,3,003,1;gf;", 1, 5);
        fault("h5,3,3,001;gf;", 1, 7);
        fault(LAW + "gf;v001;", 1, 13);
        fault("005", 1, 0);
        fault("h0000000005,3,3,1;gf;", 1, 1);
        fault("h4294967301,3,3,1;gf;", 1, 1);
        fault("h123", 1, 1);
        fault("h" + "5".repeat(99), 1, 1);
    }

    private static void theEnd() {
        Due.says("1", "the end: how many bytes there are);");
        fault("", 1, 0);
        String whole = "h05,3,3,1;gfd;v1;i02;";
        for (int end = 1; end < whole.length(); end++) {
            boolean isWhole = end == "h05,3,3,1;gfd;".length() || end == "h05,3,3,1;gfd;v1;".length();
            if (isWhole) {
                reads(whole.substring(0, end), end == 14 ? 0 : 1);
            } else if (end == 2) {
                // 0 alone is no PACE.
                fault("h0", 2, 1);
            } else if (end == 19) {
                fault("h05,3,3,1;gfd;v1;i0", 2, 18);
            } else {
                fault(whole.substring(0, end), 1, end);
            }
            HoopLane x = Due.told(whole);
            int fresh = Due.read(new HoopLane(), whole.substring(0, end));
            Due.is("bytes of the tape before do not stand behind " + whole.substring(0, end), fresh,
                Due.read(x, whole.substring(0, end)));
        }
    }

    private static void wrongNumber() {
        Due.says("1", "2 a NUMBER that is not as told;");
        fault("h0,3,3,1;gf;", 2, 1);
        fault("h00,3,3,1;gf;", 2, 1);
        fault("h10,3,3,1;gf;", 2, 1);
        fault("h99,3,3,1;gf;", 2, 1);
        fault("h5,5,3,1;gf;", 2, 3);
        fault("h5,3,0,1;gf;", 2, 5);
        fault("h5,3,6,1;gf;", 2, 5);
        fault("h5,3,3,4;gf;", 2, 7);
        fault(LAW + "gf;v0;", 2, 13);
        fault(LAW + "gf;v6;", 2, 13);
        fault(LAW + "gf;v1;i10;", 2, 16);
    }

    private static void noRoom() {
        Due.says("1", "3 a tap more than there is room for (its letter).");
        String five = LAW + "gf;v1;i1;o1;b1;t1;";
        reads(five, 5);
        for (char sort : "viobt".toCharArray()) {
            fault(five + sort + "1;", 3, 27);
        }
        fault(five + "v", 3, 27);
        fault(five + "v9;", 3, 27);
        fault(five + "v1;x", 3, 27);
    }

    // ---- promises 6 to 8

    private static void feed() {
        Due.says("Promise 6", "A byte (0 to 255) comes behind the tape: how many it has.");
        HoopLane x = new HoopLane();
        Due.is("feed(0)", 1, x.feed(0));
        Due.is("feed(255)", 2, x.feed(255));
        Due.is("count(7)", 2, x.count(7));
        x.lane();
        Due.feed(x, LAW + "gf;");
        Due.is("behind what is there", 13, x.feed('v'));
        Due.is("behind what is there", 14, x.feed('4'));
        Due.is("behind what is there", 15, x.feed(';'));
        Due.is("lane()", 1, x.lane());
        Due.is("force(0)", 4, x.force(0));
    }

    private static HoopLane fullTape() {
        HoopLane x = new HoopLane();
        Due.feed(x, LAW + "gf;" + "x".repeat(88));
        return x;
    }

    private static void feedRefused() {
        Due.says("Promise 6", "BAD; FULL.");
        Given.refused("feed(-1)", Due.BAD, Given::rolling, x -> x.feed(-1));
        Given.refused("feed(256)", Due.BAD, Given::rolling, x -> x.feed(256));
        Given.refused("feed(min)", Due.BAD, Given::rolling, x -> x.feed(Integer.MIN_VALUE));
        Given.refused("feed(max)", Due.BAD, Given::rolling, x -> x.feed(Integer.MAX_VALUE));
        Given.refused("the byte 101", Due.FULL, BoundsTextsTest::fullTape, x -> x.feed('v'));
        Given.refused("BAD ahead of FULL", Due.BAD, BoundsTextsTest::fullTape, x -> x.feed(256));
        HoopLane x = fullTape();
        Due.is("its FAULT is where it was", -1000112, x.lane());
        Due.is("there is room again", 1, x.feed('h'));
    }

    private static void lane() {
        Due.says("Promise 7", "The tape, empty then, is read: how many TAPS there are.");
        HoopLane x = new HoopLane();
        Due.is("none", 0, Due.read(x, LAW + "gf;"));
        Due.is("count(7)", 0, x.count(7));
        Due.is("five", 5, Due.read(x, LAW + "gf;v1;v1;v1;v1;v1;"));
        Due.is("count(7)", 0, x.count(7));
        Due.is("of the empty tape", -1000100, x.lane());
        Due.is("a FAULT empties it, too", -1000101, Due.read(x, "hx"));
        Due.is("count(7)", 0, x.count(7));
        Due.is("read from its first byte on", 1, Due.read(x, LAW + "gf;v1;"));
    }

    private static void laneFault() {
        Due.says("Promise 7",
            "-1000100 less the place of a FAULT: all but the tape, and what fault() tells, stays.");
        Due.is("place 0", -1000100, Due.read(new HoopLane(), "x"));
        // No text goes on further than this without one.
        String longest = "h09,04,05,03;g" + "f".repeat(24) + ";v05;v05;v05;v05;v05;";
        Due.is("no FAULT", 5, Due.read(new HoopLane(), longest));
        Due.is("place 59", -1000159, Due.read(new HoopLane(), longest + "x".repeat(41)));
        String[] texts = {"", "h9,0,5", "h9,0,5,3;", "h9,0,5,3;gws", "h9,0,5,3;gws;t5;t", "h9,0,5,3;gws;t5;b5;t4;i0"};
        for (String text : texts) {
            HoopLane x = Given.rolling();
            HoopLane untouched = Given.rolling();
            x.lane();
            untouched.lane();
            Due.holds("a FAULT of " + text, Due.read(x, text) <= -1000100);
            Due.is("status() by " + text, 3, x.status());
            untouched.lane();
            if (!text.isEmpty()) {
                x.lane();
            }
            Due.is("all stays by " + text, 1, Given.all(untouched).equals(Given.all(x)) ? 1 : 0);
        }
        HoopLane none = new HoopLane();
        Due.read(none, "h9,0,5,3;gws;t9;");
        Due.is("no LANE", Due.STATE, none.hoop(0));
        Due.is("no YARDS", 0, none.count(1));
        Due.is("no TAPS", 0, none.count(2));
        Due.is("no HOLDS", 0, none.count(3));
        Due.is("no DRAG", 0, none.count(4));
    }

    private static void latestFault() {
        Due.says("Promise 8", "The number of the latest FAULT; 0 before one.");
        HoopLane x = new HoopLane();
        Due.is("before one", 0, x.fault());
        Due.read(x, LAW + "gf;");
        Due.is("before one, a LANE read", 0, x.fault());
        Due.read(x, "h0");
        Due.is("2", 2, x.fault());
        Due.read(x, LAW + "gf;v1;v1;v1;v1;v1;v1;");
        Due.is("3", 3, x.fault());
        Due.read(x, LAW + "gf;");
        Due.is("it stays by what has none", 3, x.fault());
        x.lane();
        Due.is("1", 1, x.fault());
        x.feed(256);
        x.moment(9);
        Due.is("it stays by refusals", 1, x.fault());
    }
}
