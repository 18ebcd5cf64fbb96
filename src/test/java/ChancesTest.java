/** Promises 30 to 32: odds, mid, lots. */
final class ChancesTest {
    private static final int BAD = -1, FULL = -2, STATE = -4;
    private static final int NOTHING = 1, UNLIKE = 3, SIZE = 5;
    private static final Check CHECK = new Check("ChancesTest");

    public static void main(String[] args) {
        chances();
        chancesRefused();
        lots();
        lotsTogether();
        lotsRefused();
        CHECK.end();
    }

    private static void odds(ThingsThrown x, int p, long upper, long lower) {
        CHECK.ratio("30 odds by " + p, x, x.odds(2, p), upper, lower);
    }

    private static void mid(ThingsThrown x, int p, long upper, long lower) {
        CHECK.ratio("31 mid by " + p, x, x.mid(2, p), upper, lower);
    }

    private static ThingsThrown of(String things, int... heights) {
        ThingsThrown x = Check.with(things);
        Check.fill(x, 2, heights);
        return x;
    }

    private static void chances() {
        ThingsThrown x = of("b0b1b2", 2);
        odds(x, 4, 1, 3);
        mid(x, 4, 1, 3);
        odds(x, 0, 0, 1);
        mid(x, 0, 0, 1);
        odds(x, 12, 1, 1);
        x = of("b0b1b2", 3, 1);
        odds(x, 0, 0, 1);
        mid(x, 0, 1, 1);
        odds(x, 12, 1, 1);
        mid(x, 12, 2, 1);
        odds(x, 3, 1, 16);
        mid(x, 3, 17, 16);
        x = of("b0b7", 6);
        odds(x, 3, 3, 4);
        x = of("b0", 7);
        odds(x, 12, 1, 1);
        x = of("c0b8", 7);
        odds(x, 5, 0, 1);
        x = of("t0", 2);
        odds(x, 3, 1, 4);
        x = of("a0", 4);
        odds(x, 3, 3, 4);
        x = of("b1", 3, 3);
        odds(x, 1, 1, 1);
        mid(x, 1, 2, 1);
        x = of("a0", 4, 4, 4, 4, 4, 4);
        odds(x, 1, 1771561, 2985984);
        mid(x, 1, 1771561 + 161051 * 12 + 14641 * 144 + 1331 * 1728 + 121 * 20736 + 11 * 248832, 2985984);
        CHECK.due("30 it is only tried", x.count(2), 0);
    }

    private static void refused(String what, ThingsThrown x, int p, int answer, int finding) {
        CHECK.due("30 " + what, x.odds(2, p), answer);
        CHECK.due("31 " + what, x.mid(2, p), answer);
        if (finding != 0) {
            CHECK.due("30 " + what + ", finding()", x.finding(), finding);
            CHECK.due("31 " + what + ", findings()", x.findings(finding) % 2, 0);
        }
    }

    private static void chancesRefused() {
        refused("STATE ahead of BAD", new ThingsThrown(), 13, STATE, 0);
        ThingsThrown x = Check.with("b0");
        refused("BAD ahead of NOTHING", x, 13, BAD, 0);
        refused("p -1", x, -1, BAD, 0);
        CHECK.due("30 odds(6, 1)", x.odds(6, 1), BAD);
        CHECK.due("31 mid(-1, 1)", x.mid(-1, 1), BAD);
        refused("no ROW", x, 12, -3, NOTHING);
        x.row(2, 0);
        refused("SIZE 0", x, 0, -3, SIZE);
        x.row(2, 7);
        refused("SIZE 7, ahead of UNLIKE", x, 0, -3, SIZE);
        Check.fill(x, 2, 1, 0);
        refused("HEIGHT 0", x, 0, -3, UNLIKE);
        Check.fill(x, 2, 8);
        refused("HEIGHT 8", x, 0, -3, UNLIKE);
    }

    /** The first number of seed 1 is 48271: by 8, cut, modulo 8 it is 1; modulo 7 it is 6. */
    private static void lots() {
        ThingsThrown x = Check.with("b0");
        CHECK.due("32 thrown to 7", x.lots(1, 1), 64);
        CHECK.due("32 a THROW", x.count(6), 1);
        CHECK.due("32 nothing is DUE: a REST", x.lots(1, 1), 32);
        CHECK.due("32 no THROW", x.count(6), 1);
        CHECK.due("32 BEAT", x.count(1), 2);
        CHECK.due("32 they can be undone", x.undo(0), 2);
        CHECK.due("32 behind 7 comes 1", Check.with("b0b7").lots(1, 1), 1 + 64);
        // 820607 by 8, cut, modulo 8 is 7; modulo 3 it is 2.
        x = Check.with("b0b3b5");
        CHECK.due("32 EXCHANGED with 2", x.lots(1, 17), 1 + 8 + 32);
        CHECK.told("32 EXCHANGED with 2", x, x.thing(2, 1), 0);
        CHECK.told("32 EXCHANGED with 0", x, x.thing(0, 1), 5);
        CHECK.due("32 BEAT", x.count(1), 0);
        // 193084 by 8, cut, modulo 8 is 7; modulo 2 it is 0.
        x = Check.with("b0b3");
        CHECK.due("32 with itself", x.lots(1, 4), 1 + 8);
        CHECK.due("32 a DEED", x.count(2), 1);
        CHECK.due("32 BEAT", x.count(1), 0);
        // None of the first three numbers of seed 1 is for an exchange.
        x = Check.with("t0b4b6b8");
        CHECK.due("32 to none", x.lots(3, 1), 1 + 16 + 64 + 256);
        CHECK.due("32 DEEDS all the same", x.count(2), 3);
        CHECK.due("32 no THROW", x.count(6), 0);
        CHECK.due("32 BEAT", x.count(1), 0);
    }

    /**
     * 48271: to 7. 182605794: from 1 on, where another is DUE, so to 2. 1291394886: to 6. 1914720637: EXCHANGED with 1,
     * which is what is DUE. 2078669041: from 2 on.
     */
    private static void lotsTogether() {
        int[] skies = {1 + 2 + 64, 1 + 2 + 32, 1 + 16 + 32, 1 + 16 + 32, 2 + 8 + 16};
        int[] beats = {1, 2, 3, 3, 4};
        for (int n = 1; n <= 5; n++) {
            ThingsThrown x = Check.with("b0b1b2");
            CHECK.due("32 the first " + n + " DEEDS", x.lots(n, 1), skies[n - 1]);
            CHECK.due("32 BEAT", x.count(1), beats[n - 1]);
            CHECK.due("32 DEEDS", x.count(2), n);
        }
    }

    private static void lotsRefused() {
        CHECK.due("32 STATE ahead of BAD", new ThingsThrown().lots(0, 0), STATE);
        ThingsThrown x = Check.with("b0");
        CHECK.due("32 lots(0, 1)", x.lots(0, 1), BAD);
        CHECK.due("32 lots(21, 1)", x.lots(21, 1), BAD);
        CHECK.due("32 lots(1, 0)", x.lots(1, 0), BAD);
        CHECK.due("32 lots(1, -1)", x.lots(1, -1), BAD);
        CHECK.due("32 lots(1, 2147483647)", x.lots(1, 2147483647), BAD);
        CHECK.holds("32 lots(1, 2147483646)", x.lots(1, 2147483646) > 0);
        x.lots(20, 5);
        CHECK.due("32 FULL", x.lots(20, 5), FULL);
        CHECK.due("32 BAD ahead of FULL", x.lots(21, 5), BAD);
        CHECK.due("32 DEEDS", x.count(2), 21);
        CHECK.holds("32 up to 40", x.lots(19, 5) > 0);
        CHECK.due("32 DEEDS", x.count(2), 40);
        CHECK.due("32 FULL", x.lots(1, 5), FULL);
    }
}
