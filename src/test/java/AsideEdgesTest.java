import java.util.Arrays;
import java.util.function.Consumer;

/** The edges of promises 20 to 23: lands, may, run, rounds, which are all aside. */
final class AsideEdgesTest {
    private static final int BAD = -1, STATE = -4, NONE = -9;
    private static final int NOTHING = 1, UNLIKE = 3, SIZE = 5;
    private static final int LEAST = Integer.MIN_VALUE, MOST = Integer.MAX_VALUE;
    private static final int[] NO_ROWS = {-1, 6, LEAST, MOST};
    private static final int[] NO_HEIGHTS = {0, 8, -1, LEAST, MOST};
    private static final Edges E = new Edges("AsideEdgesTest");

    public static void main(String[] args) {
        landsNumbers();
        landsOfEachKind();
        mayNothing();
        mayHeights();
        runRefused();
        runSizes();
        runHeights();
        runRests();
        runEnds();
        roundsRefused();
        roundsSizes();
        roundsHeights();
        roundsAsDueNow();
        roundsRests();
        roundsNone();
        E.end();
    }

    private static int[] many(int n, int height) {
        int[] heights = new int[n];
        Arrays.fill(heights, height);
        return heights;
    }

    private static void landsNumbers() {
        Consumer<ThingsThrown> two = Edges.things("c3a9");
        for (int i : new int[] {-1, 2, 5, 6, LEAST, MOST}) {
            E.refused("20 lands: THING " + i + " of two is BAD", two, x -> x.lands(i, 3), BAD);
        }
        for (int h : NO_HEIGHTS) {
            E.refused("20 lands: HEIGHT " + h + " is BAD", two, x -> x.lands(0, h), BAD);
            E.refused("20 lands: HEIGHT " + h + " is BAD, not NONE", two, x -> x.lands(1, h), BAD);
            E.refused("20 lands: HEIGHT " + h + " is BAD, not NONE", Edges.things("t0"), x -> x.lands(0, h), BAD);
        }
        E.refused("20 lands: no THINGS", Edges.noThings(), x -> x.lands(0, 1), BAD);
        E.answers("20 lands: the last of six", Edges.things("b0c1f2l3t4a5"), x -> x.lands(5, 4), 3);
        E.refused("20 lands: THING 6 of six is BAD", Edges.things("b0c1f2l3t4a5"), x -> x.lands(6, 4), BAD);
    }

    private static void landsOfEachKind() {
        int[][] beats = {{1, 2, 3, 4, 5, 6, 7}, {2, 2, 4, 4, 6, 6, 8}, {2, 4, 6, 8, 10, 12, 14},
            {1, 1, 2, 3, 4, 5, 6}, {NONE, NONE, 4, 4, 6, 6, 8}, {1, 1, 2, 3, NONE, NONE, NONE}};
        for (int kind = 0; kind <= 5; kind++) {
            Consumer<ThingsThrown> notNow = Edges.things("b9" + "bcflta".charAt(kind) + "4");
            for (int h = 1; h <= 7; h++) {
                int height = h;
                E.answers("20 lands: KIND " + kind + " to " + h + ", DUE now or not", notNow,
                        x -> x.lands(1, height), beats[kind][h - 1]);
            }
        }
        E.answers("20 lands: by what it is, whatever else is DUE then", Edges.things("b0b5"), x -> x.lands(0, 5), 5);
    }

    private static void mayNothing() {
        E.refused("21 may: STATE, no THINGS", Edges.noThings(), x -> x.may(), STATE);
        E.none("21 may: NONE, nothing is DUE now", Edges.things("b1c2"), x -> x.may());
        E.none("21 may: NONE, thrown", Edges.things("b0").andThen(x -> x.toss(7)), x -> x.may());
        E.asked("21 may: DUE behind a REST", Edges.things("c9b1").andThen(x -> x.rest()), x -> x.may(), 254, 1);
        E.asked("21 may: to none, that is 0 and not NONE", Edges.things("b4b6b8t0"), x -> x.may(), 0, 3);
    }

    private static void mayHeights() {
        E.asked("21 may: a BALL alone, 1 .. 7", Edges.things("b0"), x -> x.may(), 254, 0);
        E.asked("21 may: a TORCH alone, 3 .. 7", Edges.things("t0"), x -> x.may(), 248, 0);
        E.asked("21 may: an ANVIL alone, 1 .. 4", Edges.things("a0"), x -> x.may(), 30, 0);
        E.asked("21 may: not to 1", Edges.things("b0b1"), x -> x.may(), 252, 0);
        E.asked("21 may: not to 7", Edges.things("b0b7"), x -> x.may(), 126, 0);
        E.asked("21 may: what is DUE in 8 is in no BALL's way", Edges.things("b0b8"), x -> x.may(), 254, 0);
        E.asked("21 may: a CLUB not to 7, which is DUE in 8", Edges.things("c0b8"), x -> x.may(), 126, 0);
        E.asked("21 may: a LEAD neither to 1 nor to 2", Edges.things("l0b1"), x -> x.may(), 248, 0);
        E.asked("21 may: the last of six", Edges.things("b1c2f3l4t5b0"), x -> x.may(), 64 | 128, 5);
        E.asked("21 may: with 40 DEEDS, too", Edges.things("b0b1").andThen(Edges.times(40, x -> x.toss(2))),
                x -> x.may(), 252, 0);
    }

    private static Consumer<ThingsThrown> of(String things, int... heights) {
        return Edges.things(things).andThen(Edges.row(0, heights));
    }

    private static void runRefused() {
        Consumer<ThingsThrown> none = Edges.noThings().andThen(Edges.row(0, 0)).andThen(x -> x.row(1, 21));
        E.refused("22 run: STATE, no THINGS", none.andThen(Edges.row(0, 3)), x -> x.run(0), STATE);
        for (int r : NO_ROWS) {
            E.refused("22 run: STATE ahead of BAD", none, x -> x.run(r), STATE);
            E.refused("22 run: ROW " + r + " is BAD", of("b0", 3), x -> x.run(r), BAD);
        }
        E.refused("22 run: STATE ahead of NOTHING", none, x -> x.run(2), STATE);
        E.refused("22 run: STATE ahead of SIZE", none, x -> x.run(1), STATE);
        E.refused("22 run: STATE ahead of UNLIKE", none, x -> x.run(0), STATE);
        E.found("22 run: ROW 1 is NOTHING", of("b0", 3), x -> x.run(1), NOTHING);
        E.found("22 run: a torn one is NOTHING", of("b0", 3).andThen(x -> x.tear(0)), x -> x.run(0), NOTHING);
        E.found("22 run: ROW 5 is the last", of("b0", 3), x -> x.run(5), UNLIKE);
    }

    private static void runSizes() {
        E.asked("22 run: a ROW of 0", of("b0c1"), x -> x.run(0), 0, 3);
        E.asked("22 run: a ROW of 1", of("b0", 7), x -> x.run(0), 1, 64);
        E.asked("22 run: a ROW of 19", of("b0", many(19, 1)), x -> x.run(0), 19, 1);
        E.asked("22 run: a ROW of 20", of("b0", many(20, 1)), x -> x.run(0), 20, 1);
        for (int n : new int[] {21, 40}) {
            E.found("22 run: a ROW of " + n + " is SIZE", of("b0", many(n, 1)), x -> x.run(0), SIZE);
            E.found("22 run: a ROW of " + n + ", SIZE ahead of UNLIKE", of("b0", many(n, 0)), x -> x.run(0), SIZE);
        }
    }

    private static void runHeights() {
        for (int h = 1; h <= 7; h++) {
            E.asked("22 run: HEIGHT " + h, of("b0", h), x -> x.run(0), 1, 1 << h - 1);
        }
        for (int h : NO_HEIGHTS) {
            E.found("22 run: HEIGHT " + h + " is UNLIKE", of("b0", h), x -> x.run(0), UNLIKE);
            E.found("22 run: HEIGHT " + h + " at the end is UNLIKE", of("b0", 1, 1, h), x -> x.run(0), UNLIKE);
            E.found("22 run: behind one that MAY not be, too", of("b0b1", 1, h), x -> x.run(0), UNLIKE);
        }
        int[] twenty = many(20, 1);
        twenty[19] = 8;
        E.found("22 run: the last of 20 is UNLIKE", of("b0", twenty), x -> x.run(0), UNLIKE);
    }

    private static void runRests() {
        E.asked("22 run: RESTS between", of("b0", 3, 5), x -> x.run(0), 2, 16);
        E.asked("22 run: 13 RESTS between", of("f0", 7, 7), x -> x.run(0), 2, 1 << 13);
        E.asked("22 run: RESTS ahead of the first, if nothing is DUE", of("b9", 2), x -> x.run(0), 1, 2);
        E.asked("22 run: no RESTS behind the last", of("b0", 7), x -> x.run(0), 1, 64);
        E.asked("22 run: no RESTS, if no THROW is to be made", of("b9"), x -> x.run(0), 0, 512);
        E.asked("22 run: no REST as long as one is DUE", of("b0b1b5", 7, 7), x -> x.run(0), 2, 8 | 32 | 64);
        E.asked("22 run: with 40 DEEDS, too, it is aside", Edges.things("b0b1").andThen(Edges.times(40,
                x -> x.toss(2))).andThen(Edges.row(0, 3, 3)), x -> x.run(0), 2, 2 | 4);
    }

    private static void runEnds() {
        E.asked("22 run: the first MAY not be", of("b0b1", 1), x -> x.run(0), 0, 3);
        E.asked("22 run: the first MAY not be, a TORCH", of("t0", 2, 3), x -> x.run(0), 0, 1);
        E.asked("22 run: the second MAY not be, an ANVIL", of("a0", 1, 5, 1), x -> x.run(0), 1, 1);
        E.asked("22 run: the last MAY not be", of("b0b1b2", 5, 1), x -> x.run(0), 1, 1 | 2 | 16);
        E.asked("22 run: none behind that, though it MAY be", of("b0b1b2", 5, 1, 7), x -> x.run(0), 1, 1 | 2 | 16);
        E.asked("22 run: behind RESTS, THE SKY in which it was to be made", of("t0b6", 3, 2), x -> x.run(0), 1,
                1 | 4);
        E.asked("22 run: the first, behind RESTS", of("t3b6", 2), x -> x.run(0), 0, 1 | 8);
    }

    private static void roundsRefused() {
        Consumer<ThingsThrown> none = Edges.noThings().andThen(Edges.row(0, 0)).andThen(x -> x.row(1, 21));
        E.refused("23 rounds: STATE, no THINGS", none.andThen(Edges.row(0, 3)), x -> x.rounds(0), STATE);
        for (int r : NO_ROWS) {
            E.refused("23 rounds: STATE ahead of BAD", none, x -> x.rounds(r), STATE);
            E.refused("23 rounds: ROW " + r + " is BAD", of("b0", 3), x -> x.rounds(r), BAD);
        }
        E.refused("23 rounds: STATE ahead of NOTHING", none, x -> x.rounds(2), STATE);
        E.refused("23 rounds: STATE ahead of SIZE", none, x -> x.rounds(1), STATE);
        E.refused("23 rounds: STATE ahead of UNLIKE", none, x -> x.rounds(0), STATE);
        E.found("23 rounds: ROW 1 is NOTHING", of("b0", 3), x -> x.rounds(1), NOTHING);
        E.found("23 rounds: ROW 5 is the last", of("b0", 3), x -> x.rounds(5), UNLIKE);
    }

    private static void roundsSizes() {
        E.found("23 rounds: a ROW of 0 is SIZE", of("b0"), x -> x.rounds(0), SIZE);
        E.answers("23 rounds: a ROW of 1", of("b0", 1), x -> x.rounds(0), 1);
        E.answers("23 rounds: a ROW of 20", of("b0b1b2", many(20, 3)), x -> x.rounds(0), 3);
        for (int n : new int[] {21, 40}) {
            E.found("23 rounds: a ROW of " + n + " is SIZE", of("b0", many(n, 1)), x -> x.rounds(0), SIZE);
            E.found("23 rounds: of " + n + ", SIZE ahead of UNLIKE", of("b0", many(n, 0)), x -> x.rounds(0), SIZE);
        }
    }

    private static void roundsHeights() {
        for (int h = 1; h <= 7; h++) {
            E.answers("23 rounds: HEIGHT " + h, of("b0", h), x -> x.rounds(0), 1);
        }
        for (int h : NO_HEIGHTS) {
            E.found("23 rounds: HEIGHT " + h + " is UNLIKE", of("b0", h), x -> x.rounds(0), UNLIKE);
            E.found("23 rounds: HEIGHT " + h + " at the end is UNLIKE", of("b0", 1, h), x -> x.rounds(0), UNLIKE);
            E.found("23 rounds: behind one that MAY not be, too", of("b0b1", 1, h), x -> x.rounds(0), UNLIKE);
        }
    }

    private static void roundsAsDueNow() {
        E.answers("23 rounds: each THING, not THE SKY alone", of("b0b1", 2), x -> x.rounds(0), 2);
        E.answers("23 rounds: each of six", of("b0b1b2b3b4b5", 6), x -> x.rounds(0), 6);
        E.answers("23 rounds: all of them in one", of("b0b1b2b3b4b5", many(6, 6)), x -> x.rounds(0), 1);
        E.answers("23 rounds: 42", of("t0f9c4f1f3", 7, 5), x -> x.rounds(0), 42);
        E.answers("23 rounds: 54", of("f5c6f9c0f7", 7, 7, 4, 7, 4, 7), x -> x.rounds(0), 54);
        E.answers("23 rounds: 66", of("f0c1f2f4c7", 7, 7, 2, 7, 7, 7, 7, 7, 7, 7, 2, 7), x -> x.rounds(0), 66);
        E.answers("23 rounds: 72", of("c0c2f3f9f7", 7, 4, 7, 7, 4, 4, 7, 4, 7, 7, 7, 4, 7, 7, 7, 7, 7, 7, 4),
                x -> x.rounds(0), 72);
        // No row of throws is known that takes more rounds than this one.
        E.answers("23 rounds: 90", of("f0f4f2c7c5", 7, 7, 7, 7, 7, 7, 7, 7, 2, 2, 5, 5, 5, 7, 7), x -> x.rounds(0),
                90);
        E.answers("23 rounds: with 40 DEEDS, too, it is aside", Edges.things("b0b1").andThen(Edges.times(40,
                x -> x.toss(2))).andThen(Edges.row(0, 2)), x -> x.rounds(0), 2);
    }

    private static void roundsRests() {
        E.answers("23 rounds: RESTS behind the last", of("b0", 7), x -> x.rounds(0), 1);
        E.answers("23 rounds: 13 RESTS behind the last", of("f0", 7), x -> x.rounds(0), 1);
        E.answers("23 rounds: no RESTS behind the last", of("b2", 3), x -> x.rounds(0), 1);
        E.answers("23 rounds: as many RESTS as need be", of("b2", 5), x -> x.rounds(0), 1);
        E.none("23 rounds: RESTS only as long as nothing is DUE", of("b9", 7), x -> x.rounds(0));
        E.none("23 rounds: none DUE so late", of("b3", 3), x -> x.rounds(0));
        E.answers("23 rounds: 1 later it is", of("b3", 4), x -> x.rounds(0), 1);
    }

    private static void roundsNone() {
        E.none("23 rounds: the first MAY not be", of("b0b1", 1), x -> x.rounds(0));
        E.none("23 rounds: the last MAY not be", of("t0", 3, 2), x -> x.rounds(0));
        E.none("23 rounds: one of the second round MAY not be", of("t0b1", 3), x -> x.rounds(0));
        E.none("23 rounds: never so, as each THROW MAY be", of("b4b5", 2), x -> x.rounds(0));
    }
}
