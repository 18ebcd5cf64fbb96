import java.util.function.Consumer;

/** The edges of promises 14 to 19: toss, rest, exchange, undo, keep, on. */
final class DeedsEdgesTest {
    private static final int BAD = -1, FULL = -2, STATE = -4;
    private static final int NOTHING = 1;
    private static final int LEAST = Integer.MIN_VALUE, MOST = Integer.MAX_VALUE;
    private static final Edges E = new Edges("DeedsEdgesTest");

    /** 39 and 40 DEEDS, a THING is DUE. */
    private static final Consumer<ThingsThrown> ALMOST = Edges.things("b0b1").andThen(Edges.times(39, x -> x.toss(2)));
    private static final Consumer<ThingsThrown> ALL = ALMOST.andThen(x -> x.toss(2));
    /** 39 and 40 DEEDS, nothing is DUE: thrown to 7 with 6 RESTS behind it, five times and a part of a sixth. */
    private static final Consumer<ThingsThrown> ALMOST_AT_REST = Edges.things("b0").andThen(x -> {
        for (int k = 0; k < 39; k++) {
            if (k % 7 == 0) x.toss(7);
            else x.rest();
        }
    });
    private static final Consumer<ThingsThrown> ALL_AT_REST = ALMOST_AT_REST.andThen(x -> x.rest());

    public static void main(String[] args) {
        tossHeights();
        tossNothing();
        tossMayNotBe();
        tossComesDownWithNone();
        tossChanges();
        tossFull();
        restState();
        restChanges();
        restFull();
        exchangeNumbers();
        exchangeChanges();
        exchangeFull();
        undoNumbers();
        undoEachDeed();
        undoMany();
        keepPlaces();
        keepChanges();
        onPlaces();
        onChanges();
        onGoesOn();
        E.end();
    }

    private static void tossHeights() {
        Consumer<ThingsThrown> one = Edges.things("b0");
        for (int h = 1; h <= 7; h++) {
            int height = h;
            E.taken("14 toss: HEIGHT " + h, one, x -> x.toss(height), 1 << h - 1);
        }
        for (int h : new int[] {0, 8, -1, LEAST, MOST}) {
            E.refused("14 toss: HEIGHT " + h + " is BAD", one, x -> x.toss(h), BAD);
            E.refused("14 toss: BAD ahead of STATE, nothing is DUE", Edges.things("b1"), x -> x.toss(h), BAD);
            E.refused("14 toss: BAD ahead of STATE, no THINGS", Edges.noThings(), x -> x.toss(h), BAD);
            E.refused("14 toss: BAD ahead of FULL", ALL, x -> x.toss(h), BAD);
        }
    }

    private static void tossNothing() {
        for (int h = 1; h <= 7; h++) {
            int height = h;
            E.refused("14 toss: STATE, nothing is DUE now", Edges.things("b1c2"), x -> x.toss(height), STATE);
            E.refused("14 toss: STATE, no THINGS", Edges.noThings(), x -> x.toss(height), STATE);
        }
        E.taken("14 toss: it is DUE behind a REST", Edges.things("b1").andThen(x -> x.rest()), x -> x.toss(3), 4);
    }

    private static void tossMayNotBe() {
        Consumer<ThingsThrown> torch = Edges.things("t0");
        E.refused("14 toss: a TORCH to 1", torch, x -> x.toss(1), STATE);
        E.refused("14 toss: a TORCH to 2", torch, x -> x.toss(2), STATE);
        E.taken("14 toss: a TORCH to 3", torch, x -> x.toss(3), 8);
        E.taken("14 toss: a TORCH to 7", torch, x -> x.toss(7), 128);
        Consumer<ThingsThrown> anvil = Edges.things("a0");
        E.taken("14 toss: an ANVIL to 1, DUE in 1 at least", anvil, x -> x.toss(1), 1);
        E.taken("14 toss: an ANVIL to 2", anvil, x -> x.toss(2), 1);
        E.taken("14 toss: an ANVIL to 4", anvil, x -> x.toss(4), 4);
        E.refused("14 toss: an ANVIL to 5", anvil, x -> x.toss(5), STATE);
        E.refused("14 toss: an ANVIL to 6", anvil, x -> x.toss(6), STATE);
        E.refused("14 toss: an ANVIL to 7", anvil, x -> x.toss(7), STATE);
        E.taken("14 toss: a LEAD to 1, DUE in 1 at least", Edges.things("l0"), x -> x.toss(1), 1);
        E.taken("14 toss: a LEAD to 7", Edges.things("l0"), x -> x.toss(7), 32);
        E.taken("14 toss: a CLUB to 1, in 1 more", Edges.things("c0"), x -> x.toss(1), 2);
        E.taken("14 toss: a CLUB to 2, in no more", Edges.things("c0"), x -> x.toss(2), 2);
        E.taken("14 toss: a CLUB to 7, in 1 more", Edges.things("c0"), x -> x.toss(7), 128);
        E.taken("14 toss: a FEATHER to 1, in twice as many", Edges.things("f0"), x -> x.toss(1), 2);
        E.taken("14 toss: a FEATHER to 7, in twice as many", Edges.things("f0"), x -> x.toss(7), 1 << 13);
    }

    /** By each KIND to each HEIGHT with a BALL that is DUE then, or 1 BEAT sooner, or 1 later. */
    private static void tossComesDownWithNone() {
        int[][] beats = {{1, 2, 3, 4, 5, 6, 7}, {2, 2, 4, 4, 6, 6, 8}, {2, 4, 6, 8, 10, 12, 14},
            {1, 1, 2, 3, 4, 5, 6}, {0, 0, 4, 4, 6, 6, 8}, {1, 1, 2, 3, 0, 0, 0}};
        for (int kind = 0; kind <= 5; kind++) {
            for (int h = 1; h <= 7; h++) {
                int height = h;
                int down = beats[kind][h - 1];
                for (int other = 1; other <= 9 && down > 0; other++) {
                    Consumer<ThingsThrown> two = Edges.things("bcflta".charAt(kind) + "0b" + other);
                    String what = "14 toss: KIND " + kind + " to " + h + " with a BALL DUE in " + other;
                    if (other == down) {
                        E.refused(what, two, x -> x.toss(height), STATE);
                    } else if (Math.abs(other - down) == 1) {
                        E.taken(what, two, x -> x.toss(height), 1 << down - 1 | 1 << other - 1);
                    }
                }
            }
        }
        Consumer<ThingsThrown> far = Edges.things("f0f2").andThen(x -> x.toss(7)).andThen(x -> x.rest());
        E.refused("14 toss: in 12 with a FEATHER DUE in 12", far, x -> x.toss(6), STATE);
        E.taken("14 toss: in 14 with a FEATHER DUE in 12", far, x -> x.toss(7), 1 << 13 | 1 << 11);
    }

    private static void tossChanges() {
        ThingsThrown x = E.taken("14 toss: THE SKY then", Edges.things("b0c1f9"), y -> y.toss(2), 1 | 2 | 256);
        E.due("14 toss: 1 BEAT later", x.count(1), 1);
        E.due("14 toss: a DEED", x.count(2), 1);
        E.due("14 toss: THE SKY", x.count(3), 1 | 2 | 256);
        E.due("14 toss: a THROW", x.count(6), 1);
        E.due("14 toss: it tells nothing by asked()", x.asked(), 777);
        int[] due = {1, 0, 8};
        for (int i = 0; i < 3; i++) {
            x.thing(i, 1);
            E.due("14 toss: all are DUE in 1 BEAT less", x.asked(), due[i]);
            x.thing(i, 3);
            E.due("14 toss: what was DUE is thrown", x.asked(), i == 0 ? 1 : 0);
        }
    }

    private static void tossFull() {
        ThingsThrown x = E.taken("14 toss: DEED 39, the fortieth", ALMOST, y -> y.toss(2), 3);
        E.due("14 toss: 40 DEEDS", x.count(2), 40);
        E.refused("14 toss: FULL", ALL, y -> y.toss(2), FULL);
        E.refused("14 toss: FULL, to 7", ALL, y -> y.toss(7), FULL);
        E.refused("14 toss: STATE ahead of FULL, it MAY not be", ALL, y -> y.toss(1), STATE);
        E.refused("14 toss: STATE ahead of FULL, nothing is DUE", ALL_AT_REST, y -> y.toss(1), STATE);
        E.taken("14 toss: room again, one undone", ALL.andThen(y -> y.undo(39)), y -> y.toss(2), 3);
    }

    private static void restState() {
        E.refused("15 rest: STATE, no THINGS", Edges.noThings(), x -> x.rest(), STATE);
        E.refused("15 rest: STATE, one is DUE now", Edges.things("b0"), x -> x.rest(), STATE);
        E.refused("15 rest: STATE, the last of six is DUE now", Edges.things("b1c2f3l4t5a0"), x -> x.rest(), STATE);
        E.refused("15 rest: STATE, DUE now but MAY not be thrown", Edges.things("t0b4b6b8"), x -> x.rest(), STATE);
        E.taken("15 rest: DUE in 1", Edges.things("b1"), x -> x.rest(), 1);
        E.refused("15 rest: no longer", Edges.things("b1").andThen(x -> x.rest()), x -> x.rest(), STATE);
    }

    private static void restChanges() {
        ThingsThrown x = E.taken("15 rest: THE SKY then", Edges.things("b2c9"), y -> y.rest(), 2 | 256);
        E.due("15 rest: 1 BEAT later", x.count(1), 1);
        E.due("15 rest: a DEED", x.count(2), 1);
        E.due("15 rest: no THROW", x.count(6), 0);
        E.due("15 rest: all are DUE in 1 BEAT less", x.count(5), 9);
        E.due("15 rest: it tells nothing by asked()", x.asked(), 777);
    }

    private static void restFull() {
        ThingsThrown x = E.taken("15 rest: DEED 39, the fortieth", ALMOST_AT_REST, y -> y.rest(), 4);
        E.due("15 rest: 40 DEEDS", x.count(2), 40);
        E.refused("15 rest: FULL", ALL_AT_REST, y -> y.rest(), FULL);
        E.refused("15 rest: STATE ahead of FULL", ALL, y -> y.rest(), STATE);
    }

    private static void exchangeNumbers() {
        Consumer<ThingsThrown> three = Edges.things("b0c4f7");
        for (int i : new int[] {-1, 3, 5, 6, LEAST, MOST}) {
            E.refused("16 exchange: THING " + i + " of three is BAD", three, x -> x.exchange(i, 0), BAD);
            E.refused("16 exchange: with THING " + i + " of three is BAD", three, x -> x.exchange(0, i), BAD);
            E.refused("16 exchange: BAD ahead of FULL", ALL, x -> x.exchange(i, 0), BAD);
        }
        for (int i = 0; i <= 2; i++) {
            int alike = i;
            E.refused("16 exchange: alike are BAD, " + i, three, x -> x.exchange(alike, alike), BAD);
        }
        E.refused("16 exchange: alike are BAD ahead of FULL", ALL, x -> x.exchange(1, 1), BAD);
        E.refused("16 exchange: no THINGS", Edges.noThings(), x -> x.exchange(0, 1), BAD);
        E.refused("16 exchange: one THING", Edges.things("b0"), x -> x.exchange(0, 1), BAD);
        E.taken("16 exchange: the first and the last of six", Edges.things("b0c1f2l3t4a5"), x -> x.exchange(0, 5), 63);
        E.taken("16 exchange: the last and the first of six", Edges.things("b0c1f2l3t4a5"), x -> x.exchange(5, 0), 63);
    }

    private static void exchangeChanges() {
        Consumer<ThingsThrown> three = Edges.things("b0c4f7").andThen(x -> x.toss(2));
        for (int turn = 0; turn <= 1; turn++) {
            int from = 2 * turn;
            ThingsThrown x = E.taken("16 exchange: THE SKY", three, y -> y.exchange(from, 2 - from), 2 | 8 | 64);
            E.due("16 exchange: no BEAT", x.count(1), 1);
            E.due("16 exchange: a DEED", x.count(2), 2);
            E.due("16 exchange: no THROW", x.count(6), 1);
            E.due("16 exchange: it tells nothing by asked()", x.asked(), 777);
            int[][] want = {{0, 6, 254, 1}, {1, 3, 254, 0}, {2, 1, 254, 0}};
            for (int i = 0; i <= 2; i++) {
                for (int what = 0; what <= 3; what++) {
                    x.thing(i, what);
                    E.due("16 exchange: thing(" + i + ", " + what + ")", x.asked(), want[i][what]);
                }
            }
        }
        E.taken("16 exchange: also what is not DUE now", Edges.things("b1c9"), x -> x.exchange(0, 1), 2 | 512);
    }

    private static void exchangeFull() {
        ThingsThrown x = E.taken("16 exchange: DEED 39, the fortieth", ALMOST, y -> y.exchange(0, 1), 3);
        E.due("16 exchange: 40 DEEDS", x.count(2), 40);
        E.refused("16 exchange: FULL", ALL, y -> y.exchange(0, 1), FULL);
    }

    private static void undoNumbers() {
        Consumer<ThingsThrown> three = Edges.things("b0c1f4").andThen(Edges.times(3, x -> x.exchange(0, 1)));
        for (int n : new int[] {-1, 4, 40, LEAST, MOST}) {
            E.refused("17 undo: DEED " + n + " behind three is BAD", three, x -> x.undo(n), BAD);
        }
        for (int n = 0; n <= 2; n++) {
            int from = n;
            ThingsThrown x = E.taken("17 undo: from " + n + " of three on", three, y -> y.undo(from), 3 - n);
            E.due("17 undo: DEEDS that are left", x.count(2), n);
            E.due("17 undo: it tells nothing by asked()", x.asked(), 777);
        }
        E.answers("17 undo: from just behind the last on, none", three, x -> x.undo(3), 0);
        E.answers("17 undo: from 0 on, no DEEDS", Edges.things("b0"), x -> x.undo(0), 0);
        E.refused("17 undo: from 1 on, no DEEDS", Edges.things("b0"), x -> x.undo(1), BAD);
        E.answers("17 undo: from 0 on, no THINGS", Edges.noThings(), x -> x.undo(0), 0);
        E.refused("17 undo: from 1 on, no THINGS", Edges.noThings(), x -> x.undo(1), BAD);
        E.refused("17 undo: from 41 of 40 on", ALL, x -> x.undo(41), BAD);
        E.answers("17 undo: from 40 of 40 on", ALL, x -> x.undo(40), 0);
        E.taken("17 undo: from 39 of 40 on", ALL, x -> x.undo(39), 1);
        E.taken("17 undo: from 0 of 40 on", ALL, x -> x.undo(0), 40);
    }

    private static void undone(String what, String told, Consumer<ThingsThrown> deed) {
        E.answers("17 undo: " + what + ", all is as it was ahead of it", Edges.things(told).andThen(x -> x.keep(1)),
                x -> {
                    deed.accept(x);
                    return x.undo(0);
                }, 1);
    }

    private static void undoEachDeed() {
        undone("a THROW", "f0c2", x -> x.toss(7));
        undone("a REST", "b3c9", x -> x.rest());
        undone("EXCHANGED", "b3c9", x -> x.exchange(0, 1));
        undone("thrown by LOTS", "b0", x -> x.lots(1, 1));
        undone("a REST by LOTS", "b3", x -> x.lots(1, 1));
        undone("EXCHANGED by LOTS", "b0b3b5", x -> x.lots(1, 17));
        undone("EXCHANGED with itself by LOTS", "b0b3", x -> x.lots(1, 4));
        undone("thrown to none by LOTS", "t0b4b6b8", x -> x.lots(1, 1));
    }

    private static void undoMany() {
        E.answers("17 undo: 40 DEEDS, all is as at first", Edges.things("b0c2f5"), x -> {
            x.lots(20, 5);
            x.lots(20, 6);
            return x.undo(0);
        }, 40);
        Consumer<ThingsThrown> kept = Edges.things("b0c1").andThen(x -> x.toss(3)).andThen(x -> x.keep(2));
        ThingsThrown x = E.taken("17 undo: what is kept stays", kept, y -> y.undo(0), 1);
        E.due("17 undo: what is kept stays", x.on(2), 1);
        E.due("17 undo: what is kept stays, THE SKY", x.count(3), 1 | 4);
    }

    private static void keepPlaces() {
        Consumer<ThingsThrown> one = Edges.things("b0c1").andThen(x -> x.toss(3));
        for (int k : new int[] {-1, 3, LEAST, MOST}) {
            E.refused("18 keep: place " + k + " is BAD", one, x -> x.keep(k), BAD);
            E.refused("18 keep: BAD ahead of STATE", Edges.noThings(), x -> x.keep(k), BAD);
        }
        for (int k = 0; k <= 2; k++) {
            int place = k;
            E.refused("18 keep: STATE, no THINGS", Edges.noThings(), x -> x.keep(place), STATE);
            ThingsThrown x = E.taken("18 keep: place " + k, one, y -> y.keep(place), 1);
            E.due("18 keep: kept SKIES", x.count(11), 1);
            for (int other = 0; other <= 2; other++) {
                E.due("18 keep: there alone", x.on(other), other == k ? 1 : -3);
            }
        }
        E.taken("18 keep: no DEEDS", Edges.things("b0"), x -> x.keep(0), 0);
        E.taken("18 keep: 40 DEEDS", ALL, x -> x.keep(0), 40);
    }

    private static void keepChanges() {
        Consumer<ThingsThrown> one = Edges.things("b0c1").andThen(x -> x.toss(3)).andThen(x -> x.keep(1));
        E.answers("18 keep: the same again changes nothing", one, x -> x.keep(1), 1);
        ThingsThrown x = E.taken("18 keep: over what was kept", one.andThen(y -> y.toss(4)), y -> y.keep(1), 2);
        E.due("18 keep: still one", x.count(11), 1);
        E.due("18 keep: it tells nothing by asked()", x.asked(), 777);
        x.undo(0);
        E.due("18 keep: the later one is kept", x.on(1), 2);
        E.due("18 keep: what is done behind it does not change it", E.taken("18 keep", one, y -> y.toss(4), 2 | 8)
                .on(1), 1);
        E.due("18 keep: all three places", E.taken("18 keep", one.andThen(y -> y.keep(0)), y -> y.keep(2), 1)
                .count(11), 3);
    }

    private static void onPlaces() {
        Consumer<ThingsThrown> one = Edges.things("b0c1").andThen(x -> x.keep(1)).andThen(x -> x.toss(3));
        for (int k : new int[] {-1, 3, LEAST, MOST}) {
            E.refused("19 on: place " + k + " is BAD", one, x -> x.on(k), BAD);
            E.refused("19 on: place " + k + " is BAD, no THINGS", Edges.noThings(), x -> x.on(k), BAD);
        }
        E.found("19 on: place 0 is NOTHING", one, x -> x.on(0), NOTHING);
        E.found("19 on: place 2 is NOTHING", one, x -> x.on(2), NOTHING);
        E.found("19 on: what went by things() is NOTHING", one.andThen(x -> x.things(0)), x -> x.on(1), NOTHING);
        for (int k = 0; k <= 2; k++) {
            int place = k;
            E.found("19 on: NOTHING, no THINGS", Edges.noThings(), x -> x.on(place), NOTHING);
            E.taken("19 on: place " + k, one.andThen(x -> x.keep(place)), x -> x.on(place), 1);
        }
    }

    private static void onChanges() {
        Consumer<ThingsThrown> one = Edges.things("b0c1f6").andThen(x -> x.toss(3)).andThen(x -> x.exchange(0, 2))
                .andThen(x -> x.keep(0));
        E.answers("19 on: all is as it was kept, behind DEEDS", one, x -> {
            x.toss(7);
            x.exchange(0, 1);
            return x.on(0);
        }, 2);
        E.answers("19 on: all is as it was kept, behind undo()", one, x -> {
            x.undo(0);
            return x.on(0);
        }, 2);
        E.answers("19 on: all is as it was kept, behind undo() and other DEEDS", one, x -> {
            x.undo(0);
            x.toss(7);
            x.toss(2);
            x.exchange(0, 1);
            return x.on(0);
        }, 2);
        E.answers("19 on: as all is, nothing changes", one, x -> x.on(0), 2);
        ThingsThrown x = E.taken("19 on: ROWS, TEXTS are not kept", one.andThen(Edges.row(1, 5)), y -> y.on(0), 2);
        E.holds("19 on: ROWS are not kept", Check.isRow(x, 1, 5));
    }

    private static void onGoesOn() {
        ThingsThrown x = E.taken("19 on: 40 DEEDS", ALL.andThen(y -> y.keep(0)).andThen(y -> y.undo(0)),
                y -> y.on(0), 40);
        E.due("19 on: they are FULL again", x.toss(2), FULL);
        E.due("19 on: BEAT 40", x.count(1), 40);
        E.due("19 on: they can be undone", x.undo(0), 40);
        x = E.taken("19 on: no DEEDS, from 40", Edges.things("b0b1").andThen(y -> y.keep(0)).andThen(Edges.times(40,
                y -> y.toss(2))), y -> y.on(0), 0);
        E.due("19 on: BEAT 0", x.count(1), 0);
        E.due("19 on: there is room again", x.toss(2), 3);
        E.due("19 on: what is kept does not go on", x.on(0), 0);
    }
}
