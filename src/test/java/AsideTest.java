/** Promises 20 to 29: lands, may, run, rounds, fewest, ways, height, kinds, next, duel. */
final class AsideTest {
    private static final int BAD = -1, STATE = -4, NONE = -9;
    private static final int NOTHING = 1, UNLIKE = 3, SIZE = 5;
    private static final Check CHECK = new Check("AsideTest");

    public static void main(String[] args) {
        lands();
        may();
        run();
        runRefused();
        rounds();
        fewest();
        fewestRefused();
        ways();
        height();
        kinds();
        kindsRefused();
        next();
        duel();
        CHECK.end();
    }

    private static void lands() {
        ThingsThrown x = Check.with("b0c1f2l4t5a7");
        int[][] beats = {{1, 2, 3, 4, 5, 6, 7}, {2, 2, 4, 4, 6, 6, 8}, {2, 4, 6, 8, 10, 12, 14},
            {1, 1, 2, 3, 4, 5, 6}, {NONE, NONE, 4, 4, 6, 6, 8}, {1, 1, 2, 3, NONE, NONE, NONE}};
        for (int i = 0; i < 6; i++) {
            for (int h = 1; h <= 7; h++) {
                CHECK.due("20 lands(" + i + ", " + h + ")", x.lands(i, h), beats[i][h - 1]);
            }
            CHECK.due("20 lands(" + i + ", 0)", x.lands(i, 0), BAD);
            CHECK.due("20 lands(" + i + ", 8)", x.lands(i, 8), BAD);
        }
        CHECK.due("20 lands(6, 1)", x.lands(6, 1), BAD);
        CHECK.due("20 lands(-1, 1)", x.lands(-1, 1), BAD);
        CHECK.due("20 no THINGS", new ThingsThrown().lands(0, 1), BAD);
    }

    private static void may() {
        ThingsThrown x = Check.with("c4b0f6");
        CHECK.due("21 may() of a BALL", x.may(), 2 + 4 + 8 + 32 + 128);
        CHECK.due("21 which", x.asked(), 1);
        x.exchange(0, 1);
        CHECK.due("21 may() of a CLUB", x.may(), 2 + 4 + 128);
        CHECK.due("21 which", x.asked(), 0);
        x.toss(1);
        x.thing(2, 1);
        CHECK.due("21 may(): nothing is DUE", x.may(), NONE);
        CHECK.due("21 asked() as before", x.asked(), 5);
        CHECK.due("21 no THINGS", new ThingsThrown().may(), STATE);
        x = Check.with("t0b4b6b8");
        CHECK.due("21 to none", x.may(), 0);
    }

    private static void run(String things, int made, int sky, int... heights) {
        ThingsThrown x = Check.with(things);
        Check.fill(x, 3, heights);
        long before = x.digest();
        CHECK.due("22 run of " + things, x.run(3), made);
        CHECK.due("22 THE SKY behind " + things, x.asked(), sky);
        CHECK.due("22 it is only tried", x.digest(), before);
    }

    private static void run() {
        run("b0b1b2", 3, 7, 3, 3, 3);
        run("b0b1b2", 1, 19, 5, 1);
        run("b0b1b2", 0, 7);
        run("b2", 1, 1, 1);
        run("b0", 2, 2, 3, 2);
        run("b0", 1, 4, 3);
        run("b0b5", 1, 3, 4, 1);
        run("b0b5", 2, 3, 4, 2);
        run("t0", 0, 1, 2, 3);
        run("a0", 1, 1, 1, 5);
        run("b0", 20, 1, 1, 1, 1, 1, 1, 1, 1, 1, 1, 1, 1, 1, 1, 1, 1, 1, 1, 1, 1, 1);
    }

    private static void runRefused() {
        ThingsThrown none = new ThingsThrown();
        CHECK.due("22 STATE ahead of BAD", none.run(6), STATE);
        CHECK.due("23 STATE ahead of BAD", none.rounds(6), STATE);
        ThingsThrown x = Check.with("b0");
        CHECK.due("22 run(6)", x.run(6), BAD);
        CHECK.due("22 run(-1)", x.run(-1), BAD);
        CHECK.found("22 run(0)", x, x.run(0), NOTHING);
        CHECK.due("23 rounds(6)", x.rounds(6), BAD);
        CHECK.due("23 rounds(-1)", x.rounds(-1), BAD);
        CHECK.found("23 rounds(0)", x, x.rounds(0), NOTHING);
        x.row(0, 21);
        CHECK.found("22 SIZE ahead of UNLIKE", x, x.run(0), SIZE);
        CHECK.found("23 SIZE ahead of UNLIKE", x, x.rounds(0), SIZE);
        x.row(0, 0);
        CHECK.found("23 rounds of none", x, x.rounds(0), SIZE);
        Check.fill(x, 0, 3, 0);
        CHECK.found("22 HEIGHT 0", x, x.run(0), UNLIKE);
        CHECK.found("23 HEIGHT 0", x, x.rounds(0), UNLIKE);
        Check.fill(x, 0, 3, 8);
        CHECK.found("22 HEIGHT 8", x, x.run(0), UNLIKE);
        CHECK.found("23 HEIGHT 8", x, x.rounds(0), UNLIKE);
    }

    private static void rounds(String things, int want, int... heights) {
        ThingsThrown x = Check.with(things);
        Check.fill(x, 0, heights);
        long before = x.digest();
        CHECK.due("23 rounds of " + things, x.rounds(0), want);
        CHECK.due("23 it is only tried", x.digest(), before);
    }

    private static void rounds() {
        rounds("b0b1b2", 3, 3);
        rounds("b0b1b2", 1, 3, 3, 3);
        rounds("b0b1b2", 2, 4, 2, 3);
        rounds("b0b1b2b3b4b5", 6, 6);
        rounds("b0b1b2", NONE, 5, 1);
        rounds("b2", 1, 3);
        rounds("b2", 1, 5);
        rounds("b2", NONE, 2);
        rounds("b0", 1, 7);
        rounds("b0b3", 2, 5);
        rounds("b0b4", NONE, 4);
        rounds("t0", NONE, 3, 2);
        rounds("f0b1", 1, 1, 2);
        rounds("f0b1", NONE, 1);
    }

    private static void fewest(String things, int sky, int want, int... heights) {
        ThingsThrown x = Check.with(things);
        Check.fill(x, 5, 9, 9, 9, 9, 9, 9);
        CHECK.due("24 fewest(" + sky + ") of " + things, x.fewest(sky, 5), want);
        CHECK.holds("24 the HEIGHTS to " + sky + " of " + things, Check.isRow(x, 5, heights));
        CHECK.due("24 it is only tried", x.count(2), 0);
    }

    private static void fewest() {
        fewest("b0b1b2", 7, 0);
        fewest("b0b1b2", 11, 1, 4);
        fewest("b2", 4, 0);
        fewest("b2", 2, 0);
        fewest("b2", 1, 0);
        fewest("b2", 8, 1, 4);
        fewest("b1", 64, 1, 7);
        fewest("c0", 128, 1, 7);
        fewest("c0", 8, 1, 3);
        fewest("c0", 2, 1, 1);
        fewest("c0", 4, 1, 3);
        fewest("f0", 1 << 13, 1, 7);
        fewest("b0b1", 96, 2, 7, 7);
        fewest("b0b1", 48, 2, 6, 6);
        fewest("b0b1b2", 112, 3, 7, 7, 7);
        fewest("b0b1b2b3", 120, 4, 7, 7, 7, 7);
        fewest("b0b1b2b3b4", 124, NONE, 9, 9, 9, 9, 9, 9);
        fewest("b0", 128, NONE, 9, 9, 9, 9, 9, 9);
        fewest("b0", 0, NONE, 9, 9, 9, 9, 9, 9);
        fewest("b0", 3, NONE, 9, 9, 9, 9, 9, 9);
        fewest("b0", 65535, NONE, 9, 9, 9, 9, 9, 9);
    }

    private static void fewestRefused() {
        ThingsThrown none = new ThingsThrown();
        CHECK.due("24 STATE ahead of BAD", none.fewest(-1, 6), STATE);
        ThingsThrown x = Check.with("b0");
        CHECK.due("24 fewest(-1, 0)", x.fewest(-1, 0), BAD);
        CHECK.due("24 fewest(65536, 0)", x.fewest(65536, 0), BAD);
        CHECK.due("24 fewest(1, 6)", x.fewest(1, 6), BAD);
        CHECK.due("24 fewest(1, -1)", x.fewest(1, -1), BAD);
        CHECK.due("24 no ROW of it", x.count(9), 0);
        CHECK.due("24 fewest(1, 0)", x.fewest(1, 0), 0);
        CHECK.due("24 a ROW of none is there", x.count(9), 1);
    }

    private static void ways(String things, int n, long upper, int firsts) {
        ThingsThrown x = Check.with(things);
        CHECK.ratio("25 ways(" + n + ") of " + things, x, x.ways(n), upper, 1);
        CHECK.due("25 the first HEIGHTS of " + things, x.asked(), firsts);
        CHECK.due("25 it is only tried", x.count(2), 0);
    }

    private static void ways() {
        ways("b0", 1, 1, 2);
        ways("b0", 2, 7, 254);
        ways("b0", 4, 343, 254);
        ways("c0", 1, 0, 0);
        ways("b2", 1, 1, 8);
        ways("b2", 2, 7, 254);
        ways("c2", 1, 0, 0);
        ways("c3", 1, 2, 8 + 16);
        ways("l2", 1, 1, 16);
        ways("a2", 2, 4, 30);
        ways("b0b1b2", 3, 6, 56);
        ways("b0b1b2", 4, 58, 248);
        ThingsThrown none = new ThingsThrown();
        CHECK.due("25 STATE ahead of BAD", none.ways(0), STATE);
        ThingsThrown x = Check.with("b0");
        CHECK.due("25 ways(0)", x.ways(0), BAD);
        CHECK.due("25 ways(5)", x.ways(5), BAD);
    }

    private static void height() {
        ThingsThrown x = Check.with("c0b5");
        CHECK.due("26 height(24): 3, 4", x.height(16 + 8), 8 + 16);
        CHECK.due("26 height(48): 5, 6", x.height(16 + 32), 32 + 64);
        CHECK.due("26 height(16 + 128)", x.height(16 + 128), 128);
        CHECK.due("26 height(0)", x.height(0), 0);
        CHECK.due("26 height(65535)", x.height(65535), 0);
        CHECK.due("26 height(16): none comes down with another", x.height(16), 0);
        CHECK.due("26 height(-1)", x.height(-1), BAD);
        CHECK.due("26 height(65536)", x.height(65536), BAD);
        x.toss(7);
        CHECK.due("26 nothing is DUE", x.height(1), NONE);
        CHECK.due("26 BAD ahead of NONE", x.height(65536), BAD);
        CHECK.due("26 STATE ahead of BAD", new ThingsThrown().height(-1), STATE);
    }

    private static void kinds(int kinds, int next, int part, int... pairs) {
        ThingsThrown x = Check.with("b0a1");
        Check.fill(x, 1, pairs);
        for (int i = 0; i < 2; i++) {
            CHECK.due("27 kinds(" + i + ")", x.kinds(i, 1), kinds);
            x.thing(0, 2);
            CHECK.due("28 next(" + i + ")", x.next(i, 1), next);
            CHECK.due("28 next(" + i + "), asked()", x.asked(), next == NONE ? 254 : part);
        }
    }

    private static void kinds() {
        kinds(63, 2, 2);
        kinds(18, 1, 1, 3, 4);
        kinds(1, 1, 1, 3, 3);
        kinds(6, 2, 1, 1, 2);
        kinds(40, 5, 1, 2, 1);
        kinds(8, 1, 1, 6, 5);
        kinds(4, 1, 1, 7, 14);
        kinds(41, 5, 1, 1, 1);
        kinds(19, 1, 1, 4, 4);
        kinds(0, NONE, 0, 5, 5, 2, 1);
        kinds(0, NONE, 0, 7, 15);
        kinds(19, 1, 1, 4, 4, 6, 6, 4, 4, 6, 6, 4, 4, 6, 6, 4, 4, 6, 6);
    }

    private static void pairsRefused(String what, ThingsThrown x, int finding) {
        CHECK.found("27 " + what, x, x.kinds(0, 0), finding);
        CHECK.found("28 " + what, x, x.next(0, 0), finding);
    }

    private static void kindsRefused() {
        ThingsThrown x = Check.with("b0a1");
        pairsRefused("no ROW", x, NOTHING);
        x.row(0, 3);
        pairsRefused("SIZE 3, ahead of UNLIKE", x, SIZE);
        x.row(0, 18);
        pairsRefused("SIZE 18, ahead of UNLIKE", x, SIZE);
        Check.fill(x, 0, 0, 1);
        pairsRefused("HEIGHT 0", x, UNLIKE);
        Check.fill(x, 0, 8, 1);
        pairsRefused("HEIGHT 8", x, UNLIKE);
        Check.fill(x, 0, 3, 3, 1, 0);
        pairsRefused("BEATS 0", x, UNLIKE);
        Check.fill(x, 0, 1, 16);
        pairsRefused("BEATS 16", x, UNLIKE);
    }

    private static void next() {
        ThingsThrown x = Check.with("b0a1");
        x.row(0, 0);
        int[][] wrong = {{2, 0}, {-1, 0}, {0, 6}, {0, -1}};
        for (int[] w : wrong) {
            CHECK.due("27 kinds(" + w[0] + ", " + w[1] + ")", x.kinds(w[0], w[1]), BAD);
            CHECK.due("28 next(" + w[0] + ", " + w[1] + ")", x.next(w[0], w[1]), BAD);
        }
        ThingsThrown none = new ThingsThrown();
        none.row(0, 0);
        CHECK.due("27 no THINGS", none.kinds(0, 0), BAD);
        CHECK.due("28 no THINGS", none.next(0, 0), BAD);
    }

    private static void duel(String things, int n, int want) {
        ThingsThrown x = Check.with(things);
        CHECK.told("29 duel(" + n + ") of " + things, x, x.duel(n), want);
        CHECK.due("29 it is only tried", x.count(2), 0);
    }

    private static void duel() {
        duel("b0", 0, 0);
        duel("b3", 0, 3);
        duel("b0", 1, 0);
        duel("c0", 1, 1);
        duel("b0b1b2", 1, 6);
        duel("b0b1b2", 2, 6);
        duel("t0b4b6b8", 0, 18);
        duel("t0b4b6b8", 1, 18 - 100);
        duel("a2b3b4b5", 1, 6 - 100);
        duel("b0t1b5b7b9", 1, 23 + 100);
        CHECK.due("29 STATE ahead of BAD", new ThingsThrown().duel(3), STATE);
        ThingsThrown x = Check.with("b0");
        CHECK.due("29 duel(3)", x.duel(3), BAD);
        CHECK.due("29 duel(-1)", x.duel(-1), BAD);
    }
}
