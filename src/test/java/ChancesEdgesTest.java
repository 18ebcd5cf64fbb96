import java.math.BigInteger;
import java.util.Arrays;
import java.util.function.Consumer;

/** The edges of promises 29 to 32: duel, odds, mid, lots. */
final class ChancesEdgesTest {
    private static final int BAD = -1, FULL = -2, STATE = -4;
    private static final int NOTHING = 1, UNLIKE = 3, SIZE = 5;
    private static final int LEAST = Integer.MIN_VALUE, MOST = Integer.MAX_VALUE;
    private static final int[] NO_ROWS = {-1, 6, LEAST, MOST};
    private static final Edges E = new Edges("ChancesEdgesTest");
    private static final Consumer<ThingsThrown> FULL_OF_DEEDS = Edges.things("b0b1").andThen(Edges.times(40,
            x -> x.toss(2)));

    public static void main(String[] args) {
        duelRefused();
        duelTurns();
        duelRests();
        duelEndsThere();
        chancesRefused();
        chancesSizes();
        chancesHeights();
        chancesOf12();
        chancesGoHigher();
        chancesEnd();
        chancesInLowestTerms();
        lotsNumbers();
        lotsFull();
        lotsOfASeed();
        lotsRest();
        lotsExchange();
        lotsThrow();
        lotsThrowToNone();
        lotsTruly();
        E.end();
    }

    private static void duelRefused() {
        for (int n : new int[] {-1, 3, LEAST, MOST}) {
            E.refused("29 duel: " + n + " times are BAD", Edges.things("b0"), x -> x.duel(n), BAD);
            E.refused("29 duel: STATE ahead of BAD", Edges.noThings(), x -> x.duel(n), STATE);
        }
        for (int n = 0; n <= 2; n++) {
            int times = n;
            E.refused("29 duel: STATE, no THINGS", Edges.noThings(), x -> x.duel(times), STATE);
        }
    }

    private static void duel(String sentence, String things, int n, int want) {
        E.asked("29 duel: " + sentence, Edges.things(things), x -> x.duel(n), 1, want);
    }

    private static void duelTurns() {
        duel("0 times, as all are DUE", "b0c1f9", 0, 10);
        duel("0 times, nothing DUE later", "b0", 0, 0);
        duel("once each, the second one has the last THROW", "b0", 1, 0);
        duel("twice each", "b0", 2, 0);
        duel("the second one can't do better than 1 with a CLUB", "c0", 1, 1);
        duel("nor twice each", "c0", 2, 1);
        duel("a TORCH not below 3", "t0", 2, 3);
        duel("a FEATHER in 2 at least", "f0", 2, 1);
        duel("the first one wants much: to 7, the other one little: to 1", "b0b1", 1, 5);
        duel("two of three", "b0b1b2", 1, 6);
        E.asked("29 duel: with 40 DEEDS, too, it is aside", FULL_OF_DEEDS, x -> x.duel(1), 1, 5);
    }

    private static void duelRests() {
        duel("RESTS ahead of the first THROW", "b9", 1, 0);
        duel("RESTS ahead of each", "f5", 2, 1);
        duel("0 times, no RESTS", "b9c8", 0, 17);
        duel("no RESTS behind the last", "t9", 1, 3);
    }

    private static void duelEndsThere() {
        duel("0 times, it does not come to that", "t0b4b6b8", 0, 18);
        duel("the first one comes to it: 100 less", "t0b4b6b8", 1, 18 - 100);
        duel("the first one, twice each", "t0b4b6b8", 2, 18 - 100);
        duel("behind RESTS, as they are DUE then", "t1b5b7b9", 1, 18 - 100);
        duel("the second one comes to it: 100 more", "b0t1b5b7b9", 1, 23 + 100);
        duel("the second one, twice each", "b0t1b5b7b9", 2, 23 + 100);
        duel("an ANVIL, too", "a2b3b4b5", 1, 6 - 100);
        duel("the first one leads the second one to it", "b0a1b2b4", 1, 1 + 3 + 2 + 100);
        // By b1 to 3 the ANVIL has no BEAT left; the first one could but throw b0 to 7, not 4 or 6.
        duel("the second one leads the first one to it", "b0b1a2b3b5", 2, 1 + 2 + 3 + 5 - 100);
    }

    private static Consumer<ThingsThrown> of(String things, int... heights) {
        return Edges.things(things).andThen(Edges.row(0, heights));
    }

    private static void bothRefused(String sentence, Consumer<ThingsThrown> scene, int r, int p, int answer) {
        E.refused("30 odds: " + sentence, scene, x -> x.odds(r, p), answer);
        E.refused("31 mid: " + sentence, scene, x -> x.mid(r, p), answer);
    }

    private static void bothFound(String sentence, Consumer<ThingsThrown> scene, int r, int p, int finding) {
        E.found("30 odds: " + sentence, scene, x -> x.odds(r, p), finding);
        E.found("31 mid: " + sentence, scene, x -> x.mid(r, p), finding);
    }

    private static void odds(String sentence, Consumer<ThingsThrown> scene, int p, long upper, long lower) {
        E.ratio("30 odds: " + sentence, scene, x -> x.odds(0, p), upper, lower);
    }

    private static void mid(String sentence, Consumer<ThingsThrown> scene, int p, long upper, long lower) {
        E.ratio("31 mid: " + sentence, scene, x -> x.mid(0, p), upper, lower);
    }

    private static void chancesRefused() {
        Consumer<ThingsThrown> none = Edges.noThings().andThen(Edges.row(0, 0)).andThen(x -> x.row(1, 7));
        bothRefused("STATE, no THINGS", none.andThen(Edges.row(0, 3)), 0, 6, STATE);
        bothRefused("STATE ahead of NOTHING", none, 2, 6, STATE);
        bothRefused("STATE ahead of SIZE", none, 1, 6, STATE);
        bothRefused("STATE ahead of UNLIKE", none, 0, 6, STATE);
        for (int r : NO_ROWS) {
            bothRefused("STATE ahead of BAD, ROW " + r, none, r, 6, STATE);
            bothRefused("ROW " + r + " is BAD", of("b0", 3), r, 6, BAD);
        }
        for (int p : new int[] {-1, 13, LEAST, MOST}) {
            bothRefused("STATE ahead of BAD, " + p + " of 12", none, 0, p, STATE);
            bothRefused(p + " of 12 is BAD", of("b0", 3), 0, p, BAD);
            bothRefused(p + " of 12 is BAD ahead of NOTHING", of("b0", 3), 1, p, BAD);
            bothRefused(p + " of 12 is BAD ahead of SIZE", of("b0"), 0, p, BAD);
            bothRefused(p + " of 12 is BAD ahead of UNLIKE", of("b0", 0), 0, p, BAD);
        }
        bothFound("ROW 1 is NOTHING", of("b0", 3), 1, 6, NOTHING);
        bothFound("ROW 5 is the last", of("b0", 3), 5, 6, UNLIKE);
    }

    private static void chancesSizes() {
        bothFound("a ROW of 0 is SIZE", of("b0"), 0, 6, SIZE);
        for (int n : new int[] {7, 8, 20, 40}) {
            int[] right = new int[n];
            Arrays.fill(right, 1);
            bothFound("a ROW of " + n + " is SIZE", of("b0", right), 0, 6, SIZE);
            bothFound("a ROW of " + n + ", SIZE ahead of UNLIKE", of("b0", new int[n]), 0, 6, SIZE);
        }
        odds("a ROW of 1", of("b0", 1), 6, 1, 1);
        mid("a ROW of 1", of("b0", 1), 6, 1, 1);
        odds("a ROW of 6", of("b0", 1, 2, 3, 4, 5, 6), 6, 1, 1);
        mid("a ROW of 6", of("b0", 1, 2, 3, 4, 5, 6), 6, 6, 1);
    }

    private static void chancesHeights() {
        for (int h : new int[] {0, 8, -1, LEAST, MOST}) {
            bothFound("HEIGHT " + h + " is UNLIKE", of("b0", h), 0, 6, UNLIKE);
            bothFound("HEIGHT " + h + " as the last of 6", of("b0", 1, 1, 1, 1, 1, h), 0, 6, UNLIKE);
            bothFound("HEIGHT " + h + " behind one that MAY not be", of("b0b1b2", 1, h), 0, 0, UNLIKE);
        }
        odds("HEIGHT 1", of("b0", 1), 0, 1, 1);
        odds("HEIGHT 7", of("b0", 7), 0, 1, 1);
    }

    private static void chancesOf12() {
        // A BALL to 1 would come down with another; it goes to 2 by p of 12.
        for (int p = 0; p <= 12; p++) {
            BigInteger shared = BigInteger.valueOf(p).gcd(BigInteger.valueOf(12));
            long by = shared.longValueExact();
            odds("1 higher by " + p + " of 12", of("b0b1", 1), p, p / by, 12 / by);
            mid("1 higher by " + p + " of 12", of("b0b1", 1), p, p / by, 12 / by);
            odds("as told by the rest of 12", of("b0b2", 1), 12 - p, p / by, 12 / by);
        }
    }

    private static void chancesGoHigher() {
        odds("6 goes to 7", of("b0b7", 6), 12, 0, 1);
        odds("7 at most", of("b0", 7), 12, 1, 1);
        odds("7 at most: 7 MAY not be", of("b0b7", 7), 12, 0, 1);
        odds("7 at most: not to 8", of("b0b8", 7), 12, 1, 1);
        odds("7 at most, by each p alike", of("b0b7", 7), 5, 0, 1);
        odds("1 higher, not 2", of("b0b3", 1), 12, 1, 1);
        odds("a TORCH to 2 goes to 3", of("t0", 2), 12, 1, 1);
        odds("a TORCH to 1 goes to 2", of("t0", 1), 12, 0, 1);
        odds("an ANVIL to 4 goes to 5", of("a0", 4), 12, 0, 1);
        odds("an ANVIL to 3 goes to 4", of("a0", 3), 12, 1, 1);
        odds("a CLUB to 1 or 2 is DUE alike", of("c0b1", 1), 5, 1, 1);
        odds("each by itself", of("a0", 4, 4), 6, 1, 4);
        mid("each by itself", of("a0", 4, 4), 6, 3, 4);
    }

    private static void chancesEnd() {
        mid("it ends ahead of the first that MAY not be", of("b0b1b2", 1, 3, 3), 0, 0, 1);
        mid("it ends there, though the next one MAY be", of("b0b1b2", 3, 1, 3), 0, 1, 1);
        odds("all of them", of("b0b1b2", 3, 1, 3), 0, 0, 1);
        mid("RESTS between", of("b0", 7, 7), 6, 2, 1);
        odds("RESTS ahead of the first, if nothing is DUE", of("b5", 3), 6, 1, 1);
        mid("RESTS ahead of the first, if nothing is DUE", of("b5", 3), 6, 1, 1);
        Consumer<ThingsThrown> full = FULL_OF_DEEDS.andThen(Edges.row(0, 2));
        odds("with 40 DEEDS, too, it is aside", full, 6, 1, 1);
        mid("with 40 DEEDS, too, it is aside", full, 6, 1, 1);
    }

    private static void chancesInLowestTerms() {
        odds("0 by 1", of("a0", 4, 4, 4, 4, 4, 4), 12, 0, 1);
        mid("0 by 1", of("a0", 4, 4, 4, 4, 4, 4), 12, 0, 1);
        odds("1 by 1", of("a0", 1, 1, 1, 1, 1, 1), 5, 1, 1);
        mid("6 by 1", of("a0", 1, 1, 1, 1, 1, 1), 5, 6, 1);
        odds("as great as can be", of("a0", 4, 4, 4, 4, 4, 4), 11, 1, 2985984);
        odds("in lowest terms", of("a0", 4, 4, 4, 4, 4, 4), 10, 1, 46656);
        odds("11 of 12, six times", of("a0", 4, 4, 4, 4, 4, 4), 1, 1771561, 2985984);
        mid("a half, a fourth and so on", of("a0", 4, 4, 4, 4, 4, 4), 6, 63, 64);
    }

    private static void lotsNumbers() {
        Consumer<ThingsThrown> one = Edges.things("b0c4");
        for (int n : new int[] {0, 21, -1, LEAST, MOST}) {
            E.refused("32 lots: " + n + " DEEDS are BAD", one, x -> x.lots(n, 1), BAD);
            E.refused("32 lots: BAD ahead of FULL", FULL_OF_DEEDS, x -> x.lots(n, 1), BAD);
            E.refused("32 lots: STATE ahead of BAD", Edges.noThings(), x -> x.lots(n, 1), STATE);
        }
        for (int seed : new int[] {0, -1, MOST, LEAST}) {
            E.refused("32 lots: seed " + seed + " is BAD", one, x -> x.lots(1, seed), BAD);
            E.refused("32 lots: BAD ahead of FULL", FULL_OF_DEEDS, x -> x.lots(1, seed), BAD);
            E.refused("32 lots: STATE ahead of BAD", Edges.noThings(), x -> x.lots(1, seed), STATE);
        }
        E.refused("32 lots: STATE, no THINGS", Edges.noThings(), x -> x.lots(1, 1), STATE);
        for (int n : new int[] {1, 2, 19, 20}) {
            ThingsThrown x = E.taken("32 lots: " + n + " DEEDS", one, y -> y.lots(n, 1) > 0 ? 1 : 0, 1);
            E.due("32 lots: " + n + " DEEDS", x.count(2), n);
            E.due("32 lots: it tells nothing by asked()", x.asked(), 777);
        }
    }

    private static void lotsFull() {
        Consumer<ThingsThrown> b = Edges.things("b0b1");
        E.due("32 lots: 20 and 20 are 40", E.taken("32 lots", b.andThen(Edges.times(20, x -> x.toss(2))),
                x -> x.lots(20, 1) > 0 ? 1 : 0, 1).count(2), 40);
        E.refused("32 lots: FULL, 21 and 20", b.andThen(Edges.times(21, x -> x.toss(2))), x -> x.lots(20, 1), FULL);
        E.due("32 lots: 39 and 1 are 40", E.taken("32 lots", b.andThen(Edges.times(39, x -> x.toss(2))),
                x -> x.lots(1, 1) > 0 ? 1 : 0, 1).count(2), 40);
        E.refused("32 lots: FULL, 39 and 2", b.andThen(Edges.times(39, x -> x.toss(2))), x -> x.lots(2, 1), FULL);
        E.refused("32 lots: FULL, 40 and 1", FULL_OF_DEEDS, x -> x.lots(1, 1), FULL);
    }

    /** 48271 by 8, cut, modulo 8 is 1; modulo 7 it is 6. 2147435376 by 8, cut, modulo 8 is 6; modulo 7 it is 2. */
    private static void lotsOfASeed() {
        Consumer<ThingsThrown> one = Edges.things("b0");
        E.taken("32 lots: seed 1, the first one, to 7", one, x -> x.lots(1, 1), 64);
        E.taken("32 lots: seed 2147483646, the last one, to 3", one, x -> x.lots(1, MOST - 1), 4);
        BigInteger modulus = BigInteger.valueOf(2147483647);
        BigInteger factor = BigInteger.valueOf(48271);
        for (int seed : new int[] {1, 2, 17, 44488, 1000000007, MOST - 1}) {
            Consumer<ThingsThrown> scene = Edges.things("b0c2f3a5");
            ThingsThrown together = E.taken("32 lots", scene, x -> x.lots(20, seed) > 0 ? 1 : 0, 1);
            ThingsThrown apart = E.taken("32 lots", scene, x -> 1, 1);
            int ahead = seed;
            for (int k = 0; k < 20; k++) {
                apart.lots(1, ahead);
                ahead = BigInteger.valueOf(ahead).multiply(factor).mod(modulus).intValueExact();
            }
            E.due("32 lots: each from the one ahead, seed " + seed, together.digest(), apart.digest());
            E.holds("32 lots: each DEED of its own, seed " + seed, Edges.layers(together).equals(Edges.layers(apart)));
        }
    }

    private static void behind(String sentence, ThingsThrown x, int deeds, int beat, int made) {
        E.due("32 lots: " + sentence + ", DEEDS", x.count(2), deeds);
        E.due("32 lots: " + sentence + ", BEAT", x.count(1), beat);
        E.due("32 lots: " + sentence + ", THROWS", x.count(6), made);
    }

    private static void lotsRest() {
        behind("a REST", E.taken("32 lots: nothing is DUE, a REST", Edges.things("b1c4"), x -> x.lots(1, 1), 1 | 8),
                1, 1, 0);
        // The first number of seed 17 is for an exchange.
        behind("a REST", E.taken("32 lots: nothing is DUE, whatever the number", Edges.things("b1c4"),
                x -> x.lots(1, 17), 1 | 8), 1, 1, 0);
    }

    /** 820607, of seed 17, by 8, cut, modulo 8 is 7: modulo 1, 2, .. 6 it is 0, 1, 2, 3, 2, 5. */
    private static void lotsExchange() {
        int[] with = {0, 1, 2, 3, 2, 5};
        for (int n = 1; n <= 6; n++) {
            for (int now = 0; now < n; now++) {
                StringBuilder told = new StringBuilder();
                for (int i = 0; i < n; i++) told.append('b').append(i == now ? 0 : i + 1);
                int other = with[n - 1];
                int sky = (2 << n) - 1 & ~(2 << now);
                String what = "EXCHANGED with " + other + " of " + n + (other == now ? ", itself: nothing" : "");
                ThingsThrown x = E.taken("32 lots: " + what, Edges.things(told.toString()), y -> y.lots(1, 17), sky);
                behind(what, x, 1, 0, 0);
                for (int i = 0; i < n; i++) {
                    int due = i == now ? 0 : i + 1;
                    if (i == other) due = 0;
                    else if (i == now) due = other + 1;
                    x.thing(i, 1);
                    E.due("32 lots: " + what + ", THING " + i, x.asked(), due);
                }
            }
        }
    }

    /** Numbers of seeds that are for a THROW, by what they are modulo 7: the first HEIGHT is 1 more. */
    private static void lotsThrow() {
        boolean[] seen = new boolean[7];
        for (int seed = 1; seed <= 200; seed++) {
            int lot = (int) (seed * 48271L % 2147483647L);
            if (lot / 8 % 8 == 7 || seen[lot % 7]) continue;
            seen[lot % 7] = true;
            int s = seed;
            int from = lot % 7 + 1;
            int next = from == 7 ? 1 : from + 1;
            int third = next == 7 ? 1 : next + 1;
            behind("a THROW", E.taken("32 lots: thrown to " + from, Edges.things("b0"), x -> x.lots(1, s),
                    1 << from - 1), 1, 1, 1);
            E.taken("32 lots: behind " + from + " comes " + next, Edges.things("b0b" + from), x -> x.lots(1, s),
                    1 << next - 1 | 1 << from - 1);
            E.taken("32 lots: behind " + next + " comes " + third, Edges.things("b0b" + from + "b" + next),
                    x -> x.lots(1, s), 1 << third - 1 | 1 << next - 1 | 1 << from - 1);
            if (from == 1) {
                E.taken("32 lots: the last of seven HEIGHTS", Edges.things("c0b2b4b6"), x -> x.lots(1, s),
                        2 | 8 | 32 | 128);
            }
        }
        for (int k = 0; k < 7; k++) E.holds("32 lots: each of seven, " + k, seen[k]);
        // The first number of seed 1 is for HEIGHT 7.
        E.taken("32 lots: what an ANVIL can't be thrown to, behind 7 comes 1", Edges.things("a0"), x -> x.lots(1, 1),
                1);
        E.taken("32 lots: a TORCH neither to 7 nor to 1 nor to 2", Edges.things("t0b8"), x -> x.lots(1, 1), 8 | 128);
    }

    private static void lotsThrowToNone() {
        Consumer<ThingsThrown> stuck = Edges.things("t0b4b6b8");
        ThingsThrown x = E.taken("32 lots: to none, nothing", stuck, y -> y.lots(1, 1), 1 | 16 | 64 | 256);
        behind("to none, a DEED in any case", x, 1, 0, 0);
        x.thing(0, 3);
        E.due("32 lots: to none, it is not thrown", x.asked(), 0);
        E.refused("32 lots: FULL of what was nothing, too", stuck.andThen(Edges.times(40, y -> y.lots(1, 1))),
                y -> y.lots(1, 1), FULL);
    }

    private static void lotsTruly() {
        ThingsThrown x = E.taken("32 lots: truly", Edges.things("b0"), y -> y.lots(2, 1), 32);
        behind("a THROW and a REST", x, 2, 2, 1);
        E.due("32 lots: they can be undone one by one", x.undo(1), 1);
        E.due("32 lots: THE SKY behind the first", x.count(3), 64);
    }
}
