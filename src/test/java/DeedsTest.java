/** Promises 14 to 19: toss, rest, exchange, undo, keep, on. */
final class DeedsTest {
    private static final int BAD = -1, FULL = -2, STATE = -4;
    private static final int NOTHING = 1;
    private static final Check CHECK = new Check("DeedsTest");

    public static void main(String[] args) {
        toss();
        tossOfEachKind();
        rest();
        exchange();
        full();
        undo();
        keepAndOn();
        CHECK.end();
    }

    private static void toss() {
        ThingsThrown x = Check.with("b0c1f2");
        CHECK.due("14 toss(0)", x.toss(0), BAD);
        CHECK.due("14 toss(8)", x.toss(8), BAD);
        CHECK.due("14 toss(1): another is DUE then", x.toss(1), STATE);
        CHECK.due("14 toss(2): another is DUE then", x.toss(2), STATE);
        CHECK.due("14 refused, it is BEAT 0", x.count(1), 0);
        CHECK.due("14 toss(7)", x.toss(7), 1 + 2 + 64);
        CHECK.due("14 BEAT", x.count(1), 1);
        CHECK.due("14 DEEDS", x.count(2), 1);
        CHECK.due("14 THROWS", x.count(6), 1);
        CHECK.due("14 toss(5) a CLUB: the BALL is DUE then", x.toss(5), STATE);
        CHECK.due("14 toss(3) a CLUB", x.toss(3), 1 + 8 + 32);
        CHECK.due("14 toss(7) a FEATHER", x.toss(7), 4 + 16 + (1 << 13));
        CHECK.due("14 toss(1): nothing is DUE", x.toss(1), STATE);
        CHECK.due("14 toss(0): BAD first", x.toss(0), BAD);
        ThingsThrown none = new ThingsThrown();
        CHECK.due("14 toss(1): no THINGS", none.toss(1), STATE);
        CHECK.due("14 toss(8): no THINGS, BAD first", none.toss(8), BAD);
    }

    private static void tossOfEachKind() {
        String[] kinds = {"b0", "c0", "f0", "l0", "t0", "a0"};
        int[][] beats = {{1, 2, 3, 4, 5, 6, 7}, {2, 2, 4, 4, 6, 6, 8}, {2, 4, 6, 8, 10, 12, 14},
            {1, 1, 2, 3, 4, 5, 6}, {0, 0, 4, 4, 6, 6, 8}, {1, 1, 2, 3, 0, 0, 0}};
        for (int k = 0; k < 6; k++) {
            for (int h = 1; h <= 7; h++) {
                int due = beats[k][h - 1];
                CHECK.due("14 " + kinds[k] + " toss(" + h + ")", Check.with(kinds[k]).toss(h),
                        due == 0 ? STATE : 1 << due - 1);
            }
        }
    }

    private static void rest() {
        ThingsThrown x = Check.with("b2l9");
        CHECK.due("15 rest()", x.rest(), 2 + 256);
        CHECK.due("15 rest()", x.rest(), 1 + 128);
        CHECK.due("15 BEAT", x.count(1), 2);
        CHECK.due("15 DEEDS", x.count(2), 2);
        CHECK.due("15 no THROW", x.count(6), 0);
        CHECK.due("15 rest(): one is DUE", x.rest(), STATE);
        CHECK.due("15 rest(): no THINGS", new ThingsThrown().rest(), STATE);
    }

    private static void exchange() {
        ThingsThrown x = Check.with("b0c4f7");
        CHECK.due("16 exchange(0, 2)", x.exchange(0, 2), 1 + 16 + 128);
        CHECK.told("16 thing(0, 1)", x, x.thing(0, 1), 7);
        CHECK.told("16 thing(1, 1)", x, x.thing(1, 1), 4);
        CHECK.told("16 thing(2, 1)", x, x.thing(2, 1), 0);
        CHECK.told("16 thing(2, 0)", x, x.thing(2, 0), 2);
        CHECK.due("16 BEAT", x.count(1), 0);
        CHECK.due("16 DEEDS", x.count(2), 1);
        CHECK.due("16 alike", x.exchange(1, 1), BAD);
        CHECK.due("16 exchange(3, 0)", x.exchange(3, 0), BAD);
        CHECK.due("16 exchange(0, 3)", x.exchange(0, 3), BAD);
        CHECK.due("16 exchange(-1, 0)", x.exchange(-1, 0), BAD);
        CHECK.due("16 exchange(0, -1)", x.exchange(0, -1), BAD);
        CHECK.due("16 no THINGS", new ThingsThrown().exchange(0, 1), BAD);
    }

    private static void full() {
        ThingsThrown x = Check.with("b0b1");
        for (int k = 0; k < 40; k++) {
            CHECK.due("14 DEED " + k, x.toss(2), 3);
        }
        CHECK.due("14 FULL", x.toss(2), FULL);
        CHECK.due("14 BAD ahead of FULL", x.toss(8), BAD);
        CHECK.due("14 STATE ahead of FULL", x.toss(1), STATE);
        CHECK.due("15 STATE ahead of FULL", x.rest(), STATE);
        CHECK.due("16 FULL", x.exchange(0, 1), FULL);
        CHECK.due("16 BAD ahead of FULL", x.exchange(0, 0), BAD);
        CHECK.due("14 all is as it was", x.count(3), 3);
        CHECK.due("14 BEAT 40", x.count(1), 40);
        x.undo(39);
        x.toss(7);
        CHECK.due("14 FULL again", x.count(2), 40);
        x.undo(38);
        x.toss(7);
        x.toss(5);
        CHECK.due("15 FULL", x.rest(), FULL);
    }

    private static void undo() {
        ThingsThrown x = Check.with("b0c1f4");
        long first = allThatIs(x);
        x.toss(3);
        long second = allThatIs(x);
        x.exchange(0, 2);
        long third = allThatIs(x);
        x.toss(7);
        CHECK.due("17 undo(4)", x.undo(4), BAD);
        CHECK.due("17 undo(-1)", x.undo(-1), BAD);
        CHECK.due("17 undo(3): none", x.undo(3), 0);
        CHECK.due("17 undo(2)", x.undo(2), 1);
        CHECK.due("17 all is as it was", allThatIs(x), third);
        x.toss(7);
        x.rest();
        CHECK.due("17 undo(1)", x.undo(1), 3);
        CHECK.due("17 all is as it was", allThatIs(x), second);
        CHECK.due("17 DEEDS", x.count(2), 1);
        CHECK.due("17 undo(0)", x.undo(0), 1);
        CHECK.due("17 all is as it was", allThatIs(x), first);
        CHECK.due("17 undo(0), none there", x.undo(0), 0);
        CHECK.due("17 undo(1), none there", x.undo(1), BAD);
    }

    private static long allThatIs(ThingsThrown x) {
        return x.digest();
    }

    private static void keepAndOn() {
        ThingsThrown x = new ThingsThrown();
        CHECK.due("18 no THINGS", x.keep(0), STATE);
        CHECK.due("18 no THINGS, BAD first", x.keep(3), BAD);
        x = Check.with("b0c1f4");
        x.toss(3);
        CHECK.due("18 keep(2)", x.keep(2), 1);
        CHECK.due("18 count(11)", x.count(11), 1);
        CHECK.due("18 keep(3)", x.keep(3), BAD);
        CHECK.due("18 keep(-1)", x.keep(-1), BAD);
        long then = x.digest();
        x.toss(7);
        x.exchange(0, 1);
        CHECK.due("19 on(2)", x.on(2), 1);
        CHECK.due("19 all is as it was", x.digest(), then);
        CHECK.due("19 its DEEDS can be undone", x.undo(0), 1);
        CHECK.due("19 THE SKY at first", x.count(3), 1 + 2 + 16);
        CHECK.due("19 on(2), it is kept still", x.on(2), 1);
        CHECK.due("19 all is as it was", x.digest(), then);
        CHECK.found("19 on(1)", x, x.on(1), NOTHING);
        CHECK.due("19 on(3)", x.on(3), BAD);
        CHECK.due("19 on(-1)", x.on(-1), BAD);
        x.toss(7);
        CHECK.due("18 keep(2) over what was kept", x.keep(2), 2);
        x.undo(0);
        CHECK.due("19 on(2), the later one", x.on(2), 2);
        CHECK.due("19 BEAT", x.count(1), 2);
        CHECK.due("18 keep(0)", x.keep(0), 2);
        CHECK.due("18 count(11)", x.count(11), 2);
    }
}
