import java.util.Random;

/** Runs of calls by fixed seeds, each answer compared with the model's. */
public final class FuzzTest {
    private static final int RUNS = 3000, CALLS = 512;
    private static final String[] CALLED = {"row", "set", "copy", "drop", "feed", "lane", "fault", "undo", "moment",
        "setUp", "lay", "hoop", "ground", "force", "ahead", "fewest", "soonest", "heldFrom", "righted", "plan", "seen",
        "who", "falls", "mend", "miss", "drawn", "image", "restore", "kind", "as", "ask", "trace", "count", "status"};

    private final Random random;
    private final HoopLane x = new HoopLane();
    private final Model m = new Model();
    private int calls = 0;
    private int taps = 0;

    private FuzzTest(int seed) {
        random = new Random(seed);
    }

    public static void main(String[] args) {
        for (int seed = 0; seed < RUNS; seed++) {
            new FuzzTest(seed).run(seed);
        }
        Due.end();
    }

    private void run(int seed) {
        while (calls < CALLS - 110) {
            int dice = random.nextInt(40);
            if (calls == 0 ? seed % 20 != 0 : dice == 0) {
                tell("run " + seed);
            } else if (dice < 5) {
                setRow("run " + seed);
            } else if (dice < 7) {
                setYards("run " + seed);
            } else {
                one("run " + seed, random.nextInt(CALLED.length));
            }
            compare("run " + seed);
        }
    }

    private void is(String call, long due, long answer) {
        calls++;
        Due.is(call, due, answer);
    }

    private int upTo(int most) {
        return random.nextInt(most + 1);
    }

    /** Mostly of a range, now and then beside it, seldom far. */
    private int of(int least, int most) {
        int dice = random.nextInt(60);
        if (dice == 0) {
            return least - 1;
        }
        if (dice == 1) {
            return most + 1;
        }
        if (dice == 2) {
            return random.nextBoolean() ? Integer.MIN_VALUE : Integer.MAX_VALUE;
        }
        return least + random.nextInt(Math.max(1, most - least + 1));
    }

    private String text() {
        StringBuilder t = new StringBuilder();
        t.append('h').append(1 + upTo(8)).append(',').append(upTo(4)).append(',').append(1 + upTo(4)).append(',')
            .append(upTo(random.nextBoolean() ? 0 : 3)).append(";g");
        int yards = random.nextInt(4) == 0 ? 1 + upTo(23) : 12 + upTo(12);
        String grounds = random.nextBoolean() ? "fdursw" : "fffdursw";
        for (int k = 0; k < yards; k++) {
            t.append(grounds.charAt(random.nextInt(grounds.length())));
        }
        t.append(';');
        taps = random.nextInt(8) == 0 ? 0 : 1 + upTo(4);
        for (int k = 0; k < taps; k++) {
            t.append("viobt".charAt(upTo(4))).append(1 + upTo(4)).append(';');
        }
        return t.toString();
    }

    private void tell(String run) {
        StringBuilder text = new StringBuilder(text());
        int spoilt = random.nextInt(4) == 0 ? 1 + upTo(1) : 0;
        for (int k = 0; k < spoilt; k++) {
            int at = random.nextInt(text.length());
            char c = "hgfdurswviobt0123456789,;xA ".charAt(upTo(27));
            int how = upTo(3);
            if (how == 0) {
                text.setCharAt(at, c);
            } else if (how == 1) {
                text.insert(at, c);
            } else if (how == 2) {
                text.deleteCharAt(at);
            } else {
                text.setLength(Math.max(1, at));
            }
        }
        if (random.nextInt(30) == 0) {
            text.append("v1;i1;o1;b1;t1;v1;");
        }
        for (int k = 0; k < text.length(); k++) {
            is(run + " feed", m.feed(text.charAt(k)), x.feed(text.charAt(k)));
        }
        is(run + " lane() of " + text, m.lane(), x.lane());
        is(run + " fault() of " + text, m.fault(), x.fault());
    }

    private void setRow(String run) {
        int row = upTo(3);
        int n = 1 + upTo(9);
        is(run + " row", m.row(row, row % 3, n), x.row(row, row % 3, n));
        for (int k = 0; k < n; k++) {
            int v = random.nextInt(3) == 0 ? -1 : random.nextInt(40) == 0 ? of(-1, taps) : upTo(Math.max(0, taps - 1));
            is(run + " set", m.set(row, k, v), x.set(row, k, v));
        }
        int p = upTo(10);
        for (int what = 0; what < 2; what++) {
            is(run + " plan of all", m.plan(row, 0, n, what), x.plan(row, 0, n, what));
            is(run + " miss of all", m.miss(row, 0, n, p, what), x.miss(row, 0, n, p, what));
        }
    }

    /** A row of YARDS as they come, by which seen() and who() find something. */
    private void setYards(String run) {
        int row = 4 + upTo(3);
        int n = 1 + upTo(7);
        is(run + " row", m.row(row, row % 3, n), x.row(row, row % 3, n));
        for (int k = 0; k < n; k++) {
            int v = x.ahead(k + 1, 0) + (random.nextInt(9) == 0 ? upTo(2) : 0);
            is(run + " set", m.set(row, k, v), x.set(row, k, v));
        }
        int tap = upTo(Math.max(0, taps - 1));
        is(run + " PACES seen", m.seen(row, 0, n, 0), x.seen(row, 0, n, 0));
        is(run + " LEANS seen", m.seen(row, 0, n, 1), x.seen(row, 0, n, 1));
        is(run + " who", m.who(tap, row, 0, n), x.who(tap, row, 0, n));
    }

    private void compare(String run) {
        int what = upTo(11);
        if (what < 5) {
            is(run + " hoop(" + what + ")", m.hoop(what), x.hoop(what));
        } else if (what < 8) {
            is(run + " count(" + (what - 5) + ")", m.count(what - 5), x.count(what - 5));
        } else {
            is(run + " status()", m.status(), x.status());
        }
    }

    private void one(String run, int which) {
        String call = run + " call " + calls + ": " + CALLED[which] + " ";
        if (which < 8) {
            told(call, which);
        } else if (which < 14) {
            done(call, which);
        } else if (which < 19) {
            foretold(call, which);
        } else if (which < 28) {
            looked(call, which);
        } else {
            asked(call, which);
        }
    }

    private void told(String call, int which) {
        int a = of(0, 7);
        int b = random.nextBoolean() ? of(0, 7) : a;
        int c = of(0, 4);
        int d = of(0, 4);
        int n = of(0, 4);
        switch (which) {
            case 0: is(call + a + " " + c + " " + d, m.row(a, c % 3, d), x.row(a, c % 3, d)); break;
            case 1: is(call + a, m.set(a, c, b), x.set(a, c, b)); break;
            case 2: is(call + a + " " + c + " " + b + " " + d + " " + n, m.copy(a, c, b, d, n), x.copy(a, c, b, d, n)); break;
            case 3: is(call + a, m.drop(a), x.drop(a)); break;
            case 4: is(call, m.feed(a), x.feed(a)); break;
            case 5: is(call, m.lane(), x.lane()); break;
            case 6: is(call, m.fault(), x.fault()); break;
            default: is(call, m.undo(), x.undo()); break;
        }
    }

    private void done(String call, int which) {
        int a = of(0, 23);
        int b = of(1, 9);
        int c = of(-5, 5);
        int tap = of(-1, taps - 1);
        switch (which) {
            case 8: is(call + tap, m.moment(tap), x.moment(tap)); break;
            case 9: is(call + a + " " + b + " " + c, m.setUp(a, b, c), x.setUp(a, b, c)); break;
            case 10: is(call + a + " " + b, m.lay(a, b % 6), x.lay(a, b % 6)); break;
            case 11: is(call + c, m.hoop(c), x.hoop(c)); break;
            case 12: is(call + a, m.ground(a), x.ground(a)); break;
            default: is(call + tap, m.force(tap), x.force(tap)); break;
        }
    }

    private void foretold(String call, int which) {
        int what = of(0, 1);
        int n = of(0, 40);
        int k = of(0, 3);
        switch (which) {
            case 14: is(call + n + " " + k, m.ahead(n, k), x.ahead(n, k)); break;
            case 15: is(call + what, m.fewest(what), x.fewest(what)); break;
            case 16: is(call + what, m.soonest(what), x.soonest(what)); break;
            case 17: is(call, m.heldFrom(), x.heldFrom()); break;
            default: is(call, m.righted(), x.righted()); break;
        }
    }

    private void looked(String call, int which) {
        int row = random.nextInt(5) == 0 ? of(0, 7) : upTo(3);
        int yards = random.nextInt(5) == 0 ? of(0, 7) : 4 + upTo(3);
        int i = random.nextInt(3) == 0 ? of(0, 3) : 0;
        int n = random.nextInt(4) == 0 ? of(0, 24) : of(1, 8);
        int what = of(0, 1);
        int p = of(0, 10);
        int seed = random.nextBoolean() ? of(1, 999999) : of(1, 9);
        int tap = of(0, taps - 1);
        int k = of(0, 1);
        String of = call + row + "/" + yards + " " + i + " " + n + " " + what + " " + p + " " + seed + " " + tap;
        switch (which) {
            case 19: is(of, m.plan(row, i, n, what), x.plan(row, i, n, what)); break;
            case 20: is(of, m.seen(yards, i, n, what), x.seen(yards, i, n, what)); break;
            case 21: is(of, m.who(tap, yards, i, n), x.who(tap, yards, i, n)); break;
            case 22: is(of, m.falls(), x.falls()); break;
            case 23: is(of, m.mend(what), x.mend(what)); break;
            case 24: is(of, m.miss(row, i, n, p, what), x.miss(row, i, n, p, what)); break;
            case 25: is(of, m.drawn(n, seed, what), x.drawn(n, seed, what)); break;
            case 26: is(call + k, m.image(k), x.image(k)); break;
            default: is(call + k, m.restore(k), x.restore(k)); break;
        }
    }

    private void asked(String call, int which) {
        int tap = of(0, taps - 1);
        int what = of(0, 1);
        int kind = of(0, 5);
        int i = of(0, 7);
        switch (which) {
            case 28: is(call + tap, m.kind(tap), x.kind(tap)); break;
            case 29: is(call + tap + " " + kind, m.as(tap, kind), x.as(tap, kind)); break;
            case 30: is(call + tap + " " + what, m.ask(tap, what), x.ask(tap, what)); break;
            case 31: is(call + i, m.trace(i), x.trace(i)); break;
            case 32: is(call + i, m.count(i), x.count(i)); break;
            default: is(call, m.status(), x.status()); break;
        }
    }
}
