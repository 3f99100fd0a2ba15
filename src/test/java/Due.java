/** What the tests share: answers compared with those that are due, texts fed, rows filled. */
final class Due {
    static final int NONE = -1000000, BAD = -1000001, STATE = -1000002, FULL = -1000003;
    static final int NULL = -1000011, PLACE = -1000012, KIND = -1000013, SIZE = -1000014, STORE = -1000015;

    private static int wrong = 0;
    private static int right = 0;
    private static String sentence = "";
    private static boolean tested = true;

    private Due() {
    }

    /** The test of one sentence of the document begins: its part, its words. SentencesTest finds them there. */
    static void says(String part, String words) {
        endSentence();
        sentence = part + " \"" + words + "\": ";
        tested = false;
    }

    private static void endSentence() {
        if (!tested) {
            wrong++;
            System.out.println(sentence + "nothing is tested");
        }
    }

    static void is(String call, long due, long answer) {
        tested = true;
        if (due == answer) {
            right++;
        } else {
            wrong++;
            System.out.println(sentence + call + " answered " + answer + ", due is " + due);
        }
    }

    static void holds(String what, boolean it) {
        is(what, 1, it ? 1 : 0);
    }

    static void feed(HoopLane x, String text) {
        for (int k = 0; k < text.length(); k++) {
            x.feed(text.charAt(k));
        }
    }

    static int read(HoopLane x, String text) {
        feed(x, text);
        return x.lane();
    }

    /** A new object with a LANE. */
    static HoopLane told(String text) {
        HoopLane x = new HoopLane();
        if (read(x, text) < 0) {
            wrong++;
            System.out.println("not read: " + text);
        }
        return x;
    }

    static void fill(HoopLane x, int row, int lane, int... items) {
        x.row(row, lane, items.length);
        for (int k = 0; k < items.length; k++) {
            x.set(row, k, items[k]);
        }
    }

    /** YARD, PACE, LEAN, end and MOMENT of the hoop. */
    static void hoop(String when, HoopLane x, int... due) {
        for (int what = 0; what < due.length; what++) {
            is(when + ": hoop(" + what + ")", due[what], x.hoop(what));
        }
    }

    static void end() {
        endSentence();
        System.out.println(right + " answers as due, " + wrong + " not");
        if (wrong != 0 || right == 0) {
            System.exit(1);
        }
    }
}
