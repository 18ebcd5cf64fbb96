import java.util.function.Consumer;

/** The edges of promises 24 to 28: fewest, ways, height, kinds, next. */
final class SkiesEdgesTest {
    private static final int BAD = -1, STATE = -4, NONE = -9;
    private static final int NOTHING = 1, UNLIKE = 3, SIZE = 5;
    private static final int LEAST = Integer.MIN_VALUE, MOST = Integer.MAX_VALUE;
    private static final int[] NO_ROWS = {-1, 6, LEAST, MOST};
    private static final int[] NO_SKIES = {-1, 65536, LEAST, MOST};
    private static final Edges E = new Edges("SkiesEdgesTest");
    private static final Consumer<ThingsThrown> FULL_OF_DEEDS = Edges.things("b0b1").andThen(Edges.times(40,
            x -> x.toss(2)));

    public static void main(String[] args) {
        fewestRefused();
        fewestSkies();
        fewestRows();
        fewestThrows();
        fewestRests();
        fewestFirst();
        fewestOnlyWhatMayBe();
        waysRefused();
        waysNumbers();
        waysJustBehind();
        waysOnlyWhatMayBe();
        waysAnew();
        heightRefused();
        heightSkies();
        kindsRefused();
        kindsPairs();
        kindsCanBe();
        nextHeight();
        nextNone();
        E.end();
    }

    private static void fewestRefused() {
        E.refused("24 fewest: STATE, no THINGS", Edges.noThings(), x -> x.fewest(1, 0), STATE);
        for (int sky : NO_SKIES) {
            E.refused("24 fewest: SKY " + sky + " is BAD", Edges.things("b0"), x -> x.fewest(sky, 5), BAD);
            E.refused("24 fewest: STATE ahead of BAD", Edges.noThings(), x -> x.fewest(sky, 0), STATE);
        }
        for (int r : NO_ROWS) {
            E.refused("24 fewest: ROW " + r + " is BAD", Edges.things("b0"), x -> x.fewest(1, r), BAD);
            E.refused("24 fewest: ROW " + r + " is BAD, not NONE", Edges.things("b0"), x -> x.fewest(3, r), BAD);
            E.refused("24 fewest: STATE ahead of BAD", Edges.noThings(), x -> x.fewest(1, r), STATE);
        }
    }

    private static void fewestSkies() {
        E.none("24 fewest: SKY 0 is one, by none", Edges.things("b0"), x -> x.fewest(0, 5));
        E.none("24 fewest: SKY 65535 is one, by none", Edges.things("b0c1f2l3t4a5"), x -> x.fewest(65535, 5));
        E.none("24 fewest: BEAT 15 is one, by none", Edges.things("f0"), x -> x.fewest(1 << 15, 5));
        E.none("24 fewest: BEAT 14, by none just behind a THROW", Edges.things("f0"), x -> x.fewest(1 << 14, 5));
        E.taken("24 fewest: BEAT 13, a FEATHER to 7", Edges.things("f0"), x -> x.fewest(1 << 13, 5), 1);
        E.none("24 fewest: more than there are THINGS", Edges.things("b0"), x -> x.fewest(3, 5));
        E.none("24 fewest: fewer than there are THINGS", Edges.things("b0c1"), x -> x.fewest(1, 5));
    }

    private static void fewestRows() {
        for (int r = 0; r <= 5; r++) {
            int row = r;
            ThingsThrown x = E.taken("24 fewest: ROW " + r + ", missing or not", Edges.things("b0"),
                    y -> y.fewest(8, row), 1);
            E.due("24 fewest: how many ROWS", x.count(9), r == 5 ? 1 : 2);
            E.due("24 fewest: it tells nothing by asked()", x.asked(), 777);
            E.due("24 fewest: it is only tried", x.count(2), 0);
            E.holds("24 fewest: the HEIGHTS", Check.isRow(x, row, 4));
        }
        Consumer<ThingsThrown> forty = Edges.things("b0").andThen(x -> x.row(0, 40)).andThen(x -> x.lay(0, 0, 9));
        E.holds("24 fewest: 0 THROWS, the ROW anew is of 0", Check.isRow(E.taken("24 fewest: anew", forty,
                x -> x.fewest(1, 0), 0), 0));
        E.holds("24 fewest: 1 THROW, the ROW anew is of 1", Check.isRow(E.taken("24 fewest: anew", forty,
                x -> x.fewest(64, 0), 1), 0, 7));
        E.none("24 fewest: NONE, the ROW is as it was", forty, x -> x.fewest(128, 0));
        E.none("24 fewest: NONE, a missing ROW is missing", Edges.things("b0"), x -> x.fewest(128, 0));
        E.due("24 fewest: 0 THROWS, a missing ROW is there", E.taken("24 fewest", Edges.things("b0"),
                x -> x.fewest(1, 0), 0).count(9), 2);
        ThingsThrown x = E.taken("24 fewest: with 40 DEEDS, too", FULL_OF_DEEDS, y -> y.fewest(96, 0), 2);
        E.due("24 fewest: it is aside", x.count(2), 40);
    }

    private static void fewest(String sentence, String things, int sky, int want, int... heights) {
        ThingsThrown x = E.taken("24 fewest: " + sentence, Edges.things(things), y -> y.fewest(sky, 5), want);
        E.holds("24 fewest: " + sentence + ", the HEIGHTS", Check.isRow(x, 5, heights));
    }

    private static void fewestThrows() {
        fewest("0 THROWS", "b0b1b2b3b4", 31, 0);
        fewest("1 THROW", "b0b1b2b3b4", 15 | 64, 1, 7);
        fewest("2 THROWS", "b0b1b2b3b4", 7 | 96, 2, 7, 7);
        fewest("3 THROWS", "b0b1b2b3b4", 3 | 112, 3, 7, 7, 7);
        fewest("4 THROWS", "b0b1b2b3b4", 1 | 120, 4, 7, 7, 7, 7);
        fewest("by 5 alone", "b0b1b2b3b4", 124, NONE, 777);
        fewest("4 THROWS and RESTS behind", "b0b1b2b3", 60, 4, 6, 6, 6, 6);
        fewest("no more than need be", "b0b1", 3, 0);
    }

    private static void fewestRests() {
        fewest("0 THROWS, RESTS", "b3", 1, 0);
        fewest("0 THROWS, one REST", "b3c9", 4 | 256, 0);
        fewest("0 THROWS, no REST as one is DUE", "b0c1", 3, 0);
        fewest("RESTS ahead of the first THROW", "b3", 16, 1, 5);
        fewest("RESTS between", "b0b3", 32 | 8, 2, 7, 6);
        fewest("just behind the last THROW", "c0", 32, 1, 5);
        fewest("1 REST behind the last THROW", "c0", 16, 1, 5);
        fewest("1 REST behind the last THROW, then one is DUE", "b0b2", 1 | 8, 1, 5);
        fewest("3 RESTS behind the last THROW", "f0b4", 1 | 1 << 10, 1, 7);
        fewest("as many of these RESTS as wanted: 2 of 3", "f0b4", 2 | 1 << 11, 1, 7);
    }

    private static void fewestFirst() {
        fewest("the first of two HEIGHTS alike", "c0", 8, 1, 3);
        fewest("the first of two by RESTS: 2 and 7", "f0b9", 1 | 32, 1, 2);
        fewest("just behind 3, by a REST behind 4", "b0", 4, 1, 3);
        fewest("a LEAD to 1, not to 2", "l0b3", 1 | 4, 1, 1);
        fewest("the first HEIGHTS of two THROWS", "b0b1", 2 | 4, 2, 3, 3);
        fewest("the first HEIGHTS of three THROWS", "b0b1b2", 2 | 4 | 8, 3, 4, 4, 4);
    }

    /** A TORCH can be DUE in 4, 6, 8 alone, an ANVIL in 1, 2, 3 alone: just behind a THROW 1 BEAT less. */
    private static void fewestOnlyWhatMayBe() {
        int[] torch = {0, 3, 3, 3, 5, 5, 7, 7};
        int[] anvil = {0, 3, 4};
        for (int beat = 1; beat <= 15; beat++) {
            String what = "BEAT " + beat + ", by no HEIGHT that it can't be thrown to, ";
            if (beat < torch.length) fewest(what + "a TORCH", "t0", 1 << beat, 1, torch[beat]);
            else fewest(what + "a TORCH", "t0", 1 << beat, NONE, 777);
            if (beat < anvil.length) fewest(what + "an ANVIL", "a0", 1 << beat, 1, anvil[beat]);
            else fewest(what + "an ANVIL", "a0", 1 << beat, NONE, 777);
        }
        fewest("a THROW that would come down with another is none", "b0b1", 4, NONE, 777);
        fewest("nor is one that would come down with it later", "b0b3", 1, NONE, 777);
    }

    private static void waysRefused() {
        for (int n : new int[] {0, 5, -1, LEAST, MOST}) {
            E.refused("25 ways: " + n + " THROWS are BAD", Edges.things("b0"), x -> x.ways(n), BAD);
            E.refused("25 ways: STATE ahead of BAD", Edges.noThings(), x -> x.ways(n), STATE);
        }
        for (int n = 1; n <= 4; n++) {
            int many = n;
            E.refused("25 ways: STATE, no THINGS", Edges.noThings(), x -> x.ways(many), STATE);
        }
    }

    private static void ways(String sentence, String things, int n, int firsts, int upper) {
        E.both("25 ways: " + sentence, Edges.things(things), x -> x.ways(n), firsts, upper);
    }

    private static void waysNumbers() {
        ways("1 THROW", "b0", 1, 2, 1);
        ways("2 THROWS", "b0", 2, 254, 7);
        ways("3 THROWS", "b0", 3, 254, 49);
        ways("4 THROWS", "b0", 4, 254, 343);
        ways("none: 0 by 1, and not NONE", "t0", 1, 0, 0);
        ways("none of 4", "b9", 4, 0, 0);
        ways("of two HEIGHTS alike each is one", "c1", 1, 6, 2);
        ways("HEIGHTS that come first in any alone", "b0b1", 2, 4 | 8, 2);
        ways("THE SKY, not each THING", "b0b1", 1, 4, 1);
        E.both("25 ways: with 40 DEEDS, too, it is aside", FULL_OF_DEEDS, x -> x.ways(1), 4, 1);
    }

    private static void waysJustBehind() {
        ways("just behind the last, no RESTS", "c2", 1, 0, 0);
        ways("just behind the last", "c3", 1, 8 | 16, 2);
        ways("RESTS ahead of the first", "b2", 1, 8, 1);
        ways("RESTS between", "b2", 2, 254, 7);
    }

    private static void waysOnlyWhatMayBe() {
        int[] torch = {0, 0, 0, 2, 0, 2, 0, 1, 0, 0};
        int[] torchFirsts = {0, 0, 0, 8 | 16, 0, 32 | 64, 0, 128, 0, 0};
        int[] anvil = {2, 1, 1, 0, 0, 0, 0, 0, 0, 0};
        int[] anvilFirsts = {2 | 4, 8, 16, 0, 0, 0, 0, 0, 0, 0};
        for (int due = 0; due <= 9; due++) {
            ways("a TORCH DUE in " + due, "t" + due, 1, torchFirsts[due], torch[due]);
            ways("a TORCH DUE in " + due + ", twice", "t" + due, 2, torch[due] > 0 ? 248 : 0, 5 * torch[due]);
            ways("an ANVIL DUE in " + due, "a" + due, 1, anvilFirsts[due], anvil[due]);
            ways("an ANVIL DUE in " + due + ", twice", "a" + due, 2, anvil[due] > 0 ? 30 : 0, 4 * anvil[due]);
        }
    }

    private static void waysAnew() {
        ThingsThrown x = E.taken("25 ways: first HEIGHTS of 2 THROWS", Edges.things("b0"), y -> y.ways(2), 1);
        x.ways(1);
        E.due("25 ways: then of 1 alone", x.asked(), 2);
        E.due("25 ways: then of 1 alone, how many", x.upper(), 1);
    }

    private static void heightRefused() {
        E.refused("26 height: STATE, no THINGS", Edges.noThings(), x -> x.height(1), STATE);
        for (int sky : NO_SKIES) {
            E.refused("26 height: SKY " + sky + " is BAD", Edges.things("b0"), x -> x.height(sky), BAD);
            E.refused("26 height: SKY " + sky + " is BAD, not NONE", Edges.things("b1"), x -> x.height(sky), BAD);
            E.refused("26 height: STATE ahead of BAD", Edges.noThings(), x -> x.height(sky), STATE);
        }
        E.none("26 height: NONE, nothing is DUE now", Edges.things("b1"), x -> x.height(1));
        E.none("26 height: NONE, SKY 0", Edges.things("b1"), x -> x.height(0));
        E.none("26 height: NONE, SKY 65535", Edges.things("b1"), x -> x.height(65535));
    }

    private static void heightSkies() {
        E.answers("26 height: SKY 0, to none", Edges.things("b0"), x -> x.height(0), 0);
        E.answers("26 height: SKY 65535, to none", Edges.things("b0"), x -> x.height(65535), 0);
        for (int h = 1; h <= 7; h++) {
            int height = h;
            E.answers("26 height: " + h, Edges.things("b0"), x -> x.height(1 << height - 1), 1 << h);
        }
        E.answers("26 height: 8 is none", Edges.things("b0"), x -> x.height(128), 0);
        E.answers("26 height: two HEIGHTS alike", Edges.things("l0"), x -> x.height(1), 6);
        E.answers("26 height: a FEATHER's 7", Edges.things("f0"), x -> x.height(1 << 13), 128);
        E.answers("26 height: a TORCH can't be thrown to 1, 2", Edges.things("t0"), x -> x.height(2), 0);
        E.answers("26 height: an ANVIL can't be thrown to 5", Edges.things("a0"), x -> x.height(8), 0);
        E.answers("26 height: just behind, no RESTS", Edges.things("f0"), x -> x.height(1), 0);
        E.answers("26 height: not where another is DUE", Edges.things("b0b3"), x -> x.height(4), 0);
        E.answers("26 height: THE SKY as it is now is not behind", Edges.things("b0b3"), x -> x.height(1 | 8), 0);
        E.answers("26 height: with 40 DEEDS, too, it is aside", FULL_OF_DEEDS, x -> x.height(1 | 2), 4);
    }

    private static Consumer<ThingsThrown> pairs(int... pairs) {
        return Edges.things("b0a1").andThen(Edges.row(0, pairs));
    }

    private static void pairsBad(String sentence, Consumer<ThingsThrown> scene, int i, int r) {
        E.refused("27 kinds: " + sentence, scene, x -> x.kinds(i, r), BAD);
        E.refused("28 next: " + sentence, scene, x -> x.next(i, r), BAD);
    }

    private static void pairsFound(String sentence, Consumer<ThingsThrown> scene, int r, int finding) {
        E.found("27 kinds: " + sentence, scene, x -> x.kinds(0, r), finding);
        E.found("28 next: " + sentence, scene, x -> x.next(0, r), finding);
    }

    private static void kindsRefused() {
        for (int i : new int[] {-1, 2, 5, 6, LEAST, MOST}) {
            pairsBad("THING " + i + " of two is BAD", pairs(3, 4), i, 0);
            pairsBad("BAD ahead of NOTHING", pairs(3, 4), i, 1);
            pairsBad("BAD ahead of SIZE", pairs(3), i, 0);
            pairsBad("BAD ahead of UNLIKE", pairs(0, 0), i, 0);
        }
        for (int r : NO_ROWS) {
            pairsBad("ROW " + r + " is BAD", pairs(3, 4), 0, r);
        }
        pairsBad("no THINGS", Edges.noThings().andThen(Edges.row(0, 3, 4)), 0, 0);
        pairsFound("ROW 1 is NOTHING", pairs(3, 4), 1, NOTHING);
        pairsFound("ROW 5 is the last", pairs(3, 4), 5, SIZE);
        for (int n : new int[] {1, 3, 15, 17, 18, 39, 40}) {
            int[] right = new int[n];
            for (int k = 0; k < n; k++) right[k] = 4;
            pairsFound(n + " ints are SIZE", pairs(right), 0, SIZE);
            pairsFound(n + " ints, SIZE ahead of UNLIKE", pairs(new int[n]), 0, SIZE);
        }
    }

    private static void kindsPairs() {
        for (int h : new int[] {0, 8, -1, LEAST, MOST}) {
            pairsFound("HEIGHT " + h + " is UNLIKE", pairs(h, 4), 0, UNLIKE);
            pairsFound("HEIGHT " + h + " in the last of 8 pairs", pairs(4, 4, 4, 4, 4, 4, 4, 4, 4, 4, 4, 4, 4, 4, h, 4),
                    0, UNLIKE);
        }
        for (int beats : new int[] {0, 16, -1, NONE, LEAST, MOST}) {
            pairsFound(beats + " BEATS are UNLIKE", pairs(4, beats), 0, UNLIKE);
            pairsFound(beats + " BEATS behind what no KIND fits", pairs(7, 1, 4, beats), 0, UNLIKE);
        }
        E.answers("27 kinds: 15 BEATS are some", pairs(7, 15), x -> x.kinds(0, 0), 0);
        E.answers("27 kinds: 1 BEAT is one, HEIGHT 1 is one", pairs(1, 1), x -> x.kinds(0, 0), 1 | 8 | 32);
        E.answers("27 kinds: HEIGHT 7 is one", pairs(7, 7), x -> x.kinds(0, 0), 1);
        E.answers("27 kinds: 0 pairs, all KINDS", pairs(), x -> x.kinds(0, 0), 63);
        E.answers("27 kinds: 8 pairs", pairs(1, 2, 2, 2, 3, 4, 4, 4, 5, 6, 6, 6, 7, 8, 1, 2), x -> x.kinds(0, 0), 2);
        E.answers("27 kinds: the last of 8 pairs counts", pairs(1, 2, 2, 2, 3, 4, 4, 4, 5, 6, 6, 6, 7, 8, 1, 1),
                x -> x.kinds(0, 0), 0);
        E.answers("27 kinds: the last THING of six", Edges.things("b0c1f2l3t4a5").andThen(Edges.row(0)),
                x -> x.kinds(5, 0), 63);
    }

    /** Each KIND by all that it can be thrown to; and none that can't be thrown so. */
    private static void kindsCanBe() {
        int[][] beats = {{1, 2, 3, 4, 5, 6, 7}, {2, 2, 4, 4, 6, 6, 8}, {2, 4, 6, 8, 10, 12, 14},
            {1, 1, 2, 3, 4, 5, 6}, {0, 0, 4, 4, 6, 6, 8}, {1, 1, 2, 3, 0, 0, 0}};
        for (int h = 1; h <= 7; h++) {
            for (int b = 1; b <= 15; b++) {
                int want = 0;
                for (int kind = 0; kind <= 5; kind++) want |= beats[kind][h - 1] == b ? 1 << kind : 0;
                E.answers("27 kinds: HEIGHT " + h + ", DUE in " + b, pairs(h, b), x -> x.kinds(1, 0), want);
            }
        }
        E.answers("27 kinds: whatever the THING is", pairs(7, 14), x -> x.kinds(1, 0), 4);
        E.answers("27 kinds: no KIND, that is 0 and not NONE", pairs(1, 15), x -> x.kinds(0, 0), 0);
    }

    private static void nextHeight() {
        E.asked("28 next: of all KINDS", pairs(), x -> x.next(0, 0), 2, 2);
        E.asked("28 next: of one KIND the first HEIGHT", pairs(3, 3), x -> x.next(0, 0), 1, 1);
        E.asked("28 next: a CLUB or a TORCH, which can't be thrown to 1", pairs(3, 4), x -> x.next(0, 0), 1, 1);
        E.asked("28 next: a LEAD or an ANVIL, which can't be thrown to 5", pairs(2, 1), x -> x.next(0, 0), 5, 1);
        E.asked("28 next: a BALL, a CLUB or a TORCH", pairs(4, 4), x -> x.next(0, 0), 1, 1);
        E.asked("28 next: a BALL, a LEAD or an ANVIL", pairs(1, 1), x -> x.next(0, 0), 5, 1);
        E.asked("28 next: a CLUB or a FEATHER", pairs(1, 2), x -> x.next(1, 0), 2, 1);
        E.asked("28 next: 8 pairs", pairs(4, 4, 4, 4, 4, 4, 4, 4, 4, 4, 4, 4, 4, 4, 4, 4), x -> x.next(1, 0), 1, 1);
    }

    private static void nextNone() {
        E.none("28 next: NONE, there is no KIND", pairs(7, 15), x -> x.next(0, 0));
        E.none("28 next: NONE, by two pairs", pairs(1, 2, 1, 1), x -> x.next(0, 0));
    }
}
