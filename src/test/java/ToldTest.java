/** Promises 33 to 39: asked, upper, lower, count, finding, findings, digest. */
final class ToldTest {
    private static final int BAD = -1, NONE = -9;
    private static final int NOTHING = 1, BEYOND = 2, UNLIKE = 3, NOUGHT = 4, SIZE = 5;
    private static final Check CHECK = new Check("ToldTest");

    public static void main(String[] args) {
        constants();
        asked();
        ratios();
        count();
        findings();
        refusedChangesNothing();
        digestOfNew();
        digest();
        CHECK.end();
    }

    private static void constants() {
        CHECK.due("BAD", ThingsThrown.BAD, -1);
        CHECK.due("FULL", ThingsThrown.FULL, -2);
        CHECK.due("FINDING", ThingsThrown.FINDING, -3);
        CHECK.due("STATE", ThingsThrown.STATE, -4);
        CHECK.due("SPENT", ThingsThrown.SPENT, -6);
        CHECK.due("NONE", ThingsThrown.NONE, -9);
    }

    private static void asked() {
        ThingsThrown x = Check.with("b0c1");
        CHECK.due("33 asked() before", x.asked(), 0);
        Check.fill(x, 0, 3, 4);
        CHECK.told("33 lay()", x, x.lay(0, 0, 5), 3);
        CHECK.told("33 at()", x, x.at(0, 0), 5);
        CHECK.told("33 mean()", x, x.mean(0), 4);
        CHECK.told("33 thing()", x, x.thing(0, 2), 254);
        x.may();
        CHECK.due("33 may()", x.asked(), 0);
        x.run(0);
        CHECK.due("33 run()", x.asked(), 1 + 16);
        CHECK.told("33 ways()", x, x.ways(1), 4);
        x.row(1, 0);
        x.next(0, 1);
        CHECK.due("33 next()", x.asked(), 2);
        CHECK.told("33 duel()", x, x.duel(0), 1);
        x.fewest(3, 2);
        x.height(3);
        x.kinds(0, 1);
        x.rounds(0);
        x.odds(0, 3);
        x.mid(0, 3);
        x.lands(0, 3);
        x.mark(1, 1);
        x.toss(3);
        x.exchange(0, 1);
        x.lots(1, 1);
        x.undo(0);
        x.keep(0);
        x.on(0);
        x.copy(0, 0, 0, 1, 1);
        x.tear(2);
        x.put(0, 0, 98);
        x.fault(0);
        x.things(0);
        x.digest();
        CHECK.due("33 no other call tells by it", x.asked(), 1);
    }

    private static void ratios() {
        ThingsThrown x = Check.with("b0b1b2");
        CHECK.due("34 upper() before", x.upper(), 0);
        CHECK.due("35 lower() before", x.lower(), 1);
        Check.fill(x, 0, 2);
        CHECK.ratio("34 odds()", x, x.odds(0, 9), 3, 4);
        x.odds(0, 13);
        x.mid(1, 3);
        x.ways(5);
        CHECK.due("34 upper(): as before what was refused", x.upper(), 3);
        CHECK.due("35 lower(): as before what was refused", x.lower(), 4);
        CHECK.ratio("34 ways()", x, x.ways(2), 2, 1);
        CHECK.ratio("34 mid()", x, x.mid(0, 8), 2, 3);
        CHECK.ratio("34 mid(), 0 by 1", x, x.mid(0, 0), 0, 1);
    }

    private static void counts(ThingsThrown x, int... want) {
        for (int what = 0; what < 12; what++) {
            CHECK.due("36 count(" + what + ")", x.count(what), want[what]);
        }
    }

    private static void count() {
        ThingsThrown x = Check.with("b0c1f2l4t5a7");
        counts(x, 6, 0, 0, 183, 0, 19, 0, 2, 2, 0, 1, 0);
        x.toss(3);
        x.keep(1);
        x.exchange(1, 2);
        x.row(4, 3);
        x.row(2, 0);
        x.text(3, 0);
        counts(x, 6, 1, 2, 95, 2, 16, 1, 2, 2, 2, 2, 1);
        x = Check.with("b3");
        counts(x, 1, 0, 0, 8, NONE, 3, 0, 0, 0, 0, 1, 0);
        CHECK.due("36 count(12)", x.count(12), BAD);
        CHECK.due("36 count(-1)", x.count(-1), BAD);
    }

    private static void findings() {
        ThingsThrown x = Check.with("b0");
        CHECK.due("37 finding() before any", x.finding(), 0);
        for (int f = 1; f <= 5; f++) CHECK.due("38 findings(" + f + ") before any", x.findings(f), 0);
        x.at(0, 0);
        CHECK.due("37 finding()", x.finding(), NOTHING);
        x.row(0, 0);
        x.at(0, 0);
        x.at(0, 0);
        CHECK.due("37 finding()", x.finding(), BEYOND);
        x.mark(0, 1);
        CHECK.due("37 finding()", x.finding(), UNLIKE);
        x.mean(0);
        CHECK.due("37 finding()", x.finding(), NOUGHT);
        x.row(0, -1);
        x.text(0, -1);
        x.copy(0, 0, 0, 0, -1);
        CHECK.due("37 finding()", x.finding(), SIZE);
        x.at(9, 0);
        x.toss(9);
        CHECK.due("37 finding(): BAD is none", x.finding(), SIZE);
        int[] want = {BAD, 1, 2, 1, 1, 3, BAD};
        for (int f = 0; f <= 6; f++) CHECK.due("38 findings(" + f + ")", x.findings(f), want[f]);
        CHECK.due("38 findings(-1)", x.findings(-1), BAD);
    }

    private static void refusedChangesNothing() {
        ThingsThrown x = Check.with("b0c1");
        x.toss(3);
        x.keep(0);
        Check.fill(x, 0, 9, 1);
        Check.fill(x, 1, 3);
        x.odds(1, 4);
        long digest = x.digest();
        int[] refused = {x.row(0, -1), x.lay(0, 2, 1), x.at(0, 2), x.tear(2), x.copy(0, 0, 1, 0, 2), x.mean(2),
            x.text(0, -1), x.put(0, 4, 1), x.put(1, 0, 1), x.fault(1), x.things(1), x.mark(0, 1), x.on(1), x.run(0),
            x.rounds(0), x.kinds(0, 0), x.next(0, 0), x.odds(0, 1), x.mid(0, 1)};
        for (int answer : refused) CHECK.due("what a FINDING refuses", answer, ThingsThrown.FINDING);
        CHECK.due("refused: digest()", x.digest(), digest);
        CHECK.due("refused: asked()", x.asked(), 0);
        CHECK.due("refused: upper()", x.upper(), 1);
        CHECK.due("37 finding()", x.finding(), UNLIKE);
        int all = 0;
        for (int f = 1; f <= 5; f++) all += x.findings(f);
        CHECK.due("38 findings in all", all, refused.length);
    }

    private static long digestOf(int... values) {
        long h = 17;
        for (int v : values) h = 31 * h + v;
        return h;
    }

    private static void digestOfNew() {
        CHECK.due("39 digest() of a new object", new ThingsThrown().digest(), digestOf(0, 0, 0, 0, NONE, 0, 0, 0, 0,
                0, 0, 0, -1, -1, -1, -1, -1, -1, -1, -1, -1, -1, -1, -1, -1));
    }

    private static void digest() {
        ThingsThrown x = Check.with("t0a2");
        x.toss(3);
        x.keep(2);
        x.rest();
        x.toss(1);
        Check.fill(x, 1, 7, -8);
        x.row(5, 0);
        x.text(3, 1);
        x.put(3, 0, 200);
        CHECK.due("39 digest()", x.digest(), digestOf(2, 3, 3, 3, 1, 1, 2, 1, 1, 2, 2, 1,
                4, 1, 248, 1, 5, 0, 30, 1,
                -1, -1, 1,
                -1, 2, 7, -8, -1, -1, -1, 0,
                4, 't', '0', 'a', '2', -1, -1, 1, -56));
        CHECK.due("39 digest() again", x.digest(), x.digest());
    }
}
