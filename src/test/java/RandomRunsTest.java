/** Long runs of calls, chosen by a fixed row of numbers, on the class and on the Model: they answer alike. */
final class RandomRunsTest {
    private static final int RUNS = 5000;
    /** An object answers 512 calls; a step makes at most 60 of them. */
    private static final int MOST_CALLS = 512, MOST_IN_STEP = 60;
    private static final Check CHECK = new Check("RandomRunsTest");

    private long seed;
    private int calls = 0;
    private String call = "";
    private final ThingsThrown x = new ThingsThrown();
    private final Model m = new Model();

    private RandomRunsTest(int run) {
        seed = run * 7919L + 1;
    }

    public static void main(String[] args) {
        for (int run = 0; run < RUNS && CHECK.isGood(); run++) {
            new RandomRunsTest(run).go(run);
        }
        CHECK.end();
    }

    private void go(int run) {
        if (run % 8 != 0) {
            tellThings();
        }
        // Without these, few runs of so few calls would come near to 40 DEEDS.
        for (int k = 0; k < run % 4 - 1; k++) {
            same("lots(20, 1 + run)", x.lots(20, 1 + run), m.lots(20, 1 + run));
        }
        for (int k = 0; calls <= MOST_CALLS - MOST_IN_STEP && CHECK.isGood(); k++) {
            call = "run " + run + ", step " + k + ": ";
            step();
            compareState();
        }
    }

    private int any(int n) {
        seed = seed * 6364136223846793005L + 1442695040888963407L;
        return (int) ((seed >>> 33) % n);
    }

    /** Mostly from least to most, now and then just outside, or far. */
    private int near(int least, int most) {
        int kind = any(60);
        if (kind == 0) return least - 1;
        if (kind == 1) return most + 1;
        if (kind == 2) return any(2) == 0 ? Integer.MIN_VALUE : Integer.MAX_VALUE;
        return least + any(most - least + 1);
    }

    private void same(String what, long got, long want) {
        calls++;
        CHECK.due(call + what, got, want);
    }

    private void compareState() {
        same("asked()", x.asked(), m.asked());
        same("upper()", x.upper(), m.upper());
        same("lower()", x.lower(), m.lower());
        same("finding()", x.finding(), m.finding());
        int f = near(1, 5);
        same("findings(" + f + ")", x.findings(f), m.findings(f));
        int what = near(0, 11);
        same("count(" + what + ")", x.count(what), m.count(what));
        same("digest()", x.digest(), m.digest());
    }

    private void step() {
        int which = any(100);
        if (which < 14) {
            sheet(which);
        } else if (which < 24) {
            heightsRow();
        } else if (which < 26) {
            tellThings();
        } else if (which < 58) {
            deed(which % 8);
        } else {
            aside(which % 14);
        }
    }

    private void sheet(int which) {
        int r = near(0, 5), i = near(0, 9), n = near(0, 5);
        switch (which) {
            case 0: case 1: rowAnew(r, any(9) == 0 ? near(20, 40) : near(0, 9)); break;
            case 2: same("tear(" + r + ")", x.tear(r), m.tear(r)); break;
            case 3: same("at(" + r + ", " + i + ")", x.at(r, i), m.at(r, i)); break;
            case 4: case 5: same("mean(" + r + ")", x.mean(r), m.mean(r)); break;
            case 6: case 7: {
                int to = near(0, 5), j = near(0, 6);
                same("copy(" + r + ", " + i + ", " + to + ", " + j + ", " + n + ")",
                        x.copy(r, i, to, j, n), m.copy(r, i, to, j, n));
                break;
            }
            case 8: {
                int t = near(0, 3), size = any(5) == 0 ? near(50, 60) : near(0, 13);
                same("text(" + t + ", " + size + ")", x.text(t, size), m.text(t, size));
                break;
            }
            case 9: put(near(0, 3), i, near(-1000, 1000)); break;
            case 10: put(near(0, 3), i, "bcflta0123456789 ".charAt(any(17))); break;
            case 11: {
                int t = near(0, 3);
                same("fault(" + t + ")", x.fault(t), m.fault(t));
                break;
            }
            default: lay(r, i, any(3) == 0 ? near(-200, 200) : near(1, 15)); break;
        }
    }

    private void rowAnew(int r, int n) {
        same("row(" + r + ", " + n + ")", x.row(r, n), m.row(r, n));
    }

    private void lay(int r, int i, int v) {
        same("lay(" + r + ", " + i + ", " + v + ")", x.lay(r, i, v), m.lay(r, i, v));
    }

    private void put(int t, int i, int v) {
        same("put(" + t + ", " + i + ", " + v + ")", x.put(t, i, v), m.put(t, i, v));
    }

    /** A ROW of HEIGHTS, or of pairs, that is mostly as the calls aside want it. */
    private void heightsRow() {
        int r = any(6);
        int n = any(10) == 0 ? any(23) : 1 + any(6);
        boolean pairs = any(2) == 0;
        rowAnew(r, pairs ? n / 2 * 2 : n);
        for (int i = 0; i < n; i++) {
            if (pairs && i % 2 == 1) {
                same("at(" + r + ", " + (i - 1) + ")", x.at(r, i - 1), m.at(r, i - 1));
                int h = m.asked();
                lay(r, i, any(4) == 0 ? near(1, 15) : Math.max(1, h + any(3) - 1));
            } else {
                lay(r, i, any(60) == 0 ? near(1, 7) : 1 + any(7));
            }
        }
    }

    private void tellThings() {
        StringBuilder text = new StringBuilder();
        int n = any(8) == 0 ? any(8) : 1 + any(5);
        String figures = "0123456789";
        for (int i = 0; i < n; i++) {
            if (any(4) == 0) text.append("  ", 0, 1 + any(2));
            text.append("bbcfltaz".charAt(any(40) == 0 ? 7 : any(7)));
            if (any(60) == 0) text.append(' ');
            int place = any(figures.length());
            text.append(figures.charAt(place));
            if (any(20) != 0) figures = figures.substring(0, place) + figures.substring(place + 1);
        }
        if (any(4) == 0) text.append(' ');
        int t = any(4);
        same("text", x.text(t, text.length()), m.text(t, text.length()));
        for (int i = 0; i < text.length(); i++) put(t, i, text.charAt(i));
        same("fault(" + text + ")", x.fault(t), m.fault(t));
        int from = any(9) == 0 ? near(0, 3) : t;
        same("things(" + text + ")", x.things(from), m.things(from));
    }

    private void deed(int which) {
        int k = near(0, 2), i = near(0, 5), j = near(0, 5);
        switch (which) {
            case 0: case 1: case 2: {
                int h = near(1, 7);
                same("toss(" + h + ")", x.toss(h), m.toss(h));
                break;
            }
            case 3: same("rest()", x.rest(), m.rest()); break;
            case 4: same("exchange(" + i + ", " + j + ")", x.exchange(i, j), m.exchange(i, j)); break;
            case 5: {
                int n = any(3) == 0 ? near(0, 40) : m.count(2) - any(3);
                same("undo(" + n + ")", x.undo(n), m.undo(n));
                break;
            }
            case 6: {
                if (any(2) == 0) same("keep(" + k + ")", x.keep(k), m.keep(k));
                else same("on(" + k + ")", x.on(k), m.on(k));
                break;
            }
            default: {
                int n = any(3) == 0 ? near(1, 20) : near(1, 5), s = near(1, 2147483645);
                same("lots(" + n + ", " + s + ")", x.lots(n, s), m.lots(n, s));
                break;
            }
        }
    }

    private void aside(int which) {
        int r = near(0, 5), i = near(0, 5), h = near(1, 7), p = near(0, 12);
        switch (which) {
            case 0: same("thing(" + i + ")", x.thing(i, h - 3), m.thing(i, h - 3)); break;
            case 1: same("mark(" + i + ", " + (h - 1) + ")", x.mark(i, h - 1), m.mark(i, h - 1)); break;
            case 2: same("lands(" + i + ", " + h + ")", x.lands(i, h), m.lands(i, h)); break;
            case 3: same("may()", x.may(), m.may()); break;
            case 4: case 5: same("run(" + r + ")", x.run(r), m.run(r)); break;
            case 6: same("rounds(" + r + ")", x.rounds(r), m.rounds(r)); break;
            case 7: {
                int sky = wantedSky();
                same("fewest(" + sky + ", " + r + ")", x.fewest(sky, r), m.fewest(sky, r));
                break;
            }
            case 8: {
                int n = near(1, 4);
                same("ways(" + n + ")", x.ways(n), m.ways(n));
                break;
            }
            case 9: {
                int sky = wantedSky();
                same("height(" + sky + ")", x.height(sky), m.height(sky));
                break;
            }
            case 10: same("kinds(" + i + ", " + r + ")", x.kinds(i, r), m.kinds(i, r)); break;
            case 11: same("next(" + i + ", " + r + ")", x.next(i, r), m.next(i, r)); break;
            case 12: {
                int n = near(0, 2);
                same("duel(" + n + ")", x.duel(n), m.duel(n));
                break;
            }
            default: {
                same("odds(" + r + ", " + p + ")", x.odds(r, p), m.odds(r, p));
                compareState();
                same("mid(" + r + ", " + p + ")", x.mid(r, p), m.mid(r, p));
                break;
            }
        }
    }

    /** THE SKY with one bit moved, or shifted: what a THROW or RESTS could lead to; now and then any number. */
    private int wantedSky() {
        int sky = m.count(3);
        switch (any(6)) {
            case 0: return near(0, 65535);
            case 1: return sky >> any(3);
            case 2: return ((sky & ~1) | 1 << any(15)) >> 1;
            case 3: return ((((sky & ~1) | 1 << 1 + any(7)) >> 1 & ~1) | 1 << 1 + any(7)) >> 1;
            default: return sky;
        }
    }
}
