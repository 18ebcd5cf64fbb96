import java.util.function.Consumer;

/** The edges of promises 1 to 7: a new object, row, lay, at, tear, copy, mean. */
final class RowsEdgesTest {
    private static final int BAD = -1, STATE = -4, NONE = -9;
    private static final int NOTHING = 1, BEYOND = 2, NOUGHT = 4, SIZE = 5;
    private static final int LEAST = Integer.MIN_VALUE, MOST = Integer.MAX_VALUE;
    private static final int[] NO_ROWS = {-1, 6, LEAST, MOST};
    private static final Edges E = new Edges("RowsEdgesTest");

    /** ROW 0 of three ints, ROW 1 of none, ROW 2 of two; ROWS 3 and 4 are missing. */
    private static final Consumer<ThingsThrown> ROWS = Edges.things("b0c1").andThen(x -> x.toss(3))
            .andThen(x -> x.keep(0)).andThen(Edges.row(0, 11, 12, 13)).andThen(Edges.row(1))
            .andThen(Edges.row(2, 21, 22));

    public static void main(String[] args) {
        newHasNoRows();
        newHasNoTexts();
        newHasNoThings();
        rowNumbers();
        rowSizes();
        rowAnew();
        layPlaces();
        layValues();
        atPlaces();
        tear();
        copyNumbersAndSizes();
        copyPlaces();
        copyOntoItself();
        meanRefused();
        meanIsCut();
        E.end();
    }

    private static final Consumer<ThingsThrown> NEW = x -> { };

    private static void newHasNoRows() {
        for (int r = 0; r <= 4; r++) {
            int row = r;
            E.found("1 new: ROW " + r + " is missing, at", NEW, x -> x.at(row, 0), NOTHING);
            E.found("1 new: ROW " + r + " is missing, tear", NEW, x -> x.tear(row), NOTHING);
        }
        ThingsThrown x = new ThingsThrown();
        E.due("1 new: ROW 5 is missing", x.mean(5), -3);
        E.due("1 new: it is NOTHING", x.finding(), NOTHING);
        E.due("1 new: no ROWS", x.count(9), 0);
    }

    private static void newHasNoTexts() {
        for (int t = 0; t <= 3; t++) {
            int text = t;
            E.found("1 new: TEXT " + t + " is missing, put", NEW, x -> x.put(text, 0, 98), NOTHING);
            E.found("1 new: TEXT " + t + " is missing, fault", NEW, x -> x.fault(text), NOTHING);
            E.found("1 new: TEXT " + t + " is missing, things", NEW, x -> x.things(text), NOTHING);
        }
        E.due("1 new: no TEXTS", new ThingsThrown().count(10), 0);
    }

    private static void newHasNoThings() {
        E.refused("1 new: no THINGS, thing", NEW, x -> x.thing(0, 0), BAD);
        E.refused("1 new: no THINGS, mark", NEW, x -> x.mark(0, 1), BAD);
        E.refused("1 new: no THINGS, exchange", NEW, x -> x.exchange(0, 1), BAD);
        E.refused("1 new: no THINGS, lands", NEW, x -> x.lands(0, 1), BAD);
        E.refused("1 new: no THINGS, toss", NEW, x -> x.toss(1), STATE);
        E.refused("1 new: no THINGS, rest", NEW, x -> x.rest(), STATE);
        E.refused("1 new: no THINGS, keep", NEW, x -> x.keep(0), STATE);
        E.refused("1 new: no THINGS, may", NEW, x -> x.may(), STATE);
        for (int k = 0; k <= 2; k++) {
            int place = k;
            E.found("1 new: no kept SKY in " + k, NEW, x -> x.on(place), NOTHING);
        }
        E.refused("1 new: no DEED 0", NEW, x -> x.undo(1), BAD);
        ThingsThrown x = new ThingsThrown();
        for (int what = 0; what <= 11; what++) {
            E.due("1 new: count(" + what + ")", x.count(what), what == 4 ? NONE : 0);
        }
    }

    private static void rowNumbers() {
        for (int r = 0; r <= 4; r++) {
            int row = r;
            ThingsThrown x = E.taken("2 row: ROW " + r + " is one", ROWS, y -> y.row(row, 7), 7);
            E.due("2 row: how many ROWS there are", x.count(9), r < 3 ? 4 : 5);
        }
        E.taken("2 row: ROW 5 is the last", ROWS, x -> x.row(5, 7), 7);
        for (int r : NO_ROWS) {
            E.refused("2 row: ROW " + r + " is BAD", ROWS, x -> x.row(r, 1), BAD);
            E.refused("2 row: ROW " + r + " is BAD ahead of SIZE", ROWS, x -> x.row(r, -1), BAD);
            E.refused("2 row: ROW " + r + " and 41 ints are BAD", ROWS, x -> x.row(r, 41), BAD);
        }
    }

    private static void rowSizes() {
        for (int n : new int[] {0, 1, 39, 40}) {
            ThingsThrown x = E.taken("2 row: " + n + " ints", ROWS, y -> y.row(3, n), n);
            E.holds("2 row: " + n + " ints 0", Check.isRow(x, 3, new int[n]));
        }
        for (int n : new int[] {41, 42, MOST}) {
            E.refused("2 row: " + n + " ints are BAD, ROW 0 is there", ROWS, x -> x.row(0, n), BAD);
            E.refused("2 row: " + n + " ints are BAD, ROW 3 is missing", ROWS, x -> x.row(3, n), BAD);
        }
        for (int n : new int[] {-1, -2, LEAST}) {
            E.found("2 row: " + n + " ints are SIZE, ROW 0 is there", ROWS, x -> x.row(0, n), SIZE);
            E.found("2 row: " + n + " ints are SIZE, ROW 3 is missing", ROWS, x -> x.row(3, n), SIZE);
        }
    }

    private static void rowAnew() {
        for (int n : new int[] {0, 2, 3, 5}) {
            ThingsThrown x = E.taken("2 row: ROW 0 anew with " + n, ROWS, y -> y.row(0, n), n);
            E.holds("2 row: ROW 0 anew has " + n + " ints 0", Check.isRow(x, 0, new int[n]));
            E.holds("2 row: the others are as they were", Check.isRow(x, 1) && Check.isRow(x, 2, 21, 22)
                    && Check.isRow(x, 5, 777));
        }
        ThingsThrown x = E.taken("2 row: it tells nothing by asked()", ROWS, y -> y.row(0, 3), 3);
        E.due("2 row: it tells nothing by asked()", x.asked(), 777);
    }

    private static void layPlaces() {
        for (int i = 0; i <= 2; i++) {
            int place = i;
            ThingsThrown x = E.taken("3 lay: place " + i + " of three", ROWS, y -> y.lay(0, place, 9), 1);
            E.due("3 lay: what it was", x.asked(), 11 + i);
            E.holds("3 lay: that place alone", Check.isRow(x, 0, i == 0 ? 9 : 11, i == 1 ? 9 : 12, i == 2 ? 9 : 13));
        }
        for (int i : new int[] {-1, 3, LEAST, MOST}) {
            E.found("3 lay: place " + i + " of three is BEYOND", ROWS, x -> x.lay(0, i, 9), BEYOND);
        }
        E.found("3 lay: place 0 of none is BEYOND", ROWS, x -> x.lay(1, 0, 9), BEYOND);
        Consumer<ThingsThrown> full = ROWS.andThen(x -> x.row(3, 40));
        E.taken("3 lay: place 39 of 40", full, x -> x.lay(3, 39, 9), 1);
        E.found("3 lay: place 40 of 40 is BEYOND", full, x -> x.lay(3, 40, 9), BEYOND);
        Consumer<ThingsThrown> shrunk = full.andThen(x -> x.row(3, 2));
        E.found("3 lay: place 2 of what had 40 is BEYOND", shrunk, x -> x.lay(3, 2, 9), BEYOND);
        for (int r : NO_ROWS) {
            E.refused("3 lay: ROW " + r + " is BAD", ROWS, x -> x.lay(r, 0, 9), BAD);
            E.refused("3 lay: ROW " + r + " is BAD ahead of BEYOND", ROWS, x -> x.lay(r, -1, 9), BAD);
        }
        for (int r = 3; r <= 4; r++) {
            int row = r;
            E.found("3 lay: ROW " + r + " is NOTHING", ROWS, x -> x.lay(row, 0, 9), NOTHING);
            E.found("3 lay: ROW " + r + " is NOTHING ahead of BEYOND", ROWS, x -> x.lay(row, 41, 9), NOTHING);
        }
    }

    private static void layValues() {
        for (int v : new int[] {LEAST, -1, 0, 1, 255, 256, MOST}) {
            ThingsThrown x = E.taken("3 lay: any int", ROWS, y -> y.lay(0, 1, v), 1);
            x.lay(0, 1, 0);
            E.due("3 lay: " + v + " is whole", x.asked(), v);
        }
    }

    private static void atPlaces() {
        for (int i = 0; i <= 2; i++) {
            int place = i;
            E.asked("4 at: place " + i + " of three", ROWS, x -> x.at(0, place), 1, 11 + i);
        }
        for (int i : new int[] {-1, 3, LEAST, MOST}) {
            E.found("4 at: place " + i + " of three is BEYOND", ROWS, x -> x.at(0, i), BEYOND);
        }
        E.found("4 at: place 0 of none is BEYOND", ROWS, x -> x.at(1, 0), BEYOND);
        Consumer<ThingsThrown> full = ROWS.andThen(x -> x.row(3, 40)).andThen(x -> x.lay(3, 39, LEAST));
        E.asked("4 at: place 39 of 40", full, x -> x.at(3, 39), 1, LEAST);
        E.found("4 at: place 40 of 40 is BEYOND", full, x -> x.at(3, 40), BEYOND);
        for (int r : NO_ROWS) {
            E.refused("4 at: ROW " + r + " is BAD", ROWS, x -> x.at(r, 0), BAD);
            E.refused("4 at: ROW " + r + " is BAD ahead of BEYOND", ROWS, x -> x.at(r, -1), BAD);
        }
        for (int r = 3; r <= 4; r++) {
            int row = r;
            E.found("4 at: ROW " + r + " is NOTHING", ROWS, x -> x.at(row, 0), NOTHING);
            E.found("4 at: ROW " + r + " is NOTHING ahead of BEYOND", ROWS, x -> x.at(row, -1), NOTHING);
        }
    }

    private static void tear() {
        for (int r = 0; r <= 2; r++) {
            int row = r;
            ThingsThrown x = E.taken("5 tear: ROW " + r + ", of none too", ROWS, y -> y.tear(row), 1);
            E.due("5 tear: one ROW less", x.count(9), 3);
            E.due("5 tear: it tells nothing by asked()", x.asked(), 777);
            E.due("5 tear: it is missing", x.at(row, 0), -3);
            E.due("5 tear: it is NOTHING", x.finding(), NOTHING);
            E.holds("5 tear: the others are as they were", (r == 0 || Check.isRow(x, 0, 11, 12, 13))
                    && (r == 1 || Check.isRow(x, 1)) && (r == 2 || Check.isRow(x, 2, 21, 22)));
        }
        E.taken("5 tear: ROW 5 is the last", ROWS, x -> x.tear(5), 1);
        E.found("5 tear: what is torn is NOTHING", ROWS.andThen(x -> x.tear(0)), x -> x.tear(0), NOTHING);
        E.found("5 tear: what never was is NOTHING", ROWS, x -> x.tear(4), NOTHING);
        for (int r : NO_ROWS) {
            E.refused("5 tear: ROW " + r + " is BAD", ROWS, x -> x.tear(r), BAD);
        }
    }

    private static void copyNumbersAndSizes() {
        for (int r : NO_ROWS) {
            E.refused("6 copy: from ROW " + r + " is BAD", ROWS, x -> x.copy(r, 0, 0, 0, 1), BAD);
            E.refused("6 copy: to ROW " + r + " is BAD", ROWS, x -> x.copy(0, 0, r, 0, 1), BAD);
            E.refused("6 copy: BAD ahead of SIZE", ROWS, x -> x.copy(r, 0, 0, 0, -1), BAD);
            E.refused("6 copy: BAD ahead of NOTHING", ROWS, x -> x.copy(3, 0, r, 0, 1), BAD);
            E.refused("6 copy: BAD ahead of BEYOND", ROWS, x -> x.copy(r, 9, 0, 9, 1), BAD);
        }
        for (int n : new int[] {-1, LEAST}) {
            E.found("6 copy: " + n + " places are SIZE", ROWS, x -> x.copy(0, 0, 2, 0, n), SIZE);
            E.found("6 copy: SIZE ahead of NOTHING", ROWS, x -> x.copy(3, 0, 4, 0, n), SIZE);
            E.found("6 copy: SIZE ahead of BEYOND", ROWS, x -> x.copy(0, 9, 2, 9, n), SIZE);
        }
        E.found("6 copy: NOTHING to take from", ROWS, x -> x.copy(3, 0, 0, 0, 0), NOTHING);
        E.found("6 copy: NOTHING to come to", ROWS, x -> x.copy(0, 0, 3, 0, 0), NOTHING);
        E.found("6 copy: NOTHING, both", ROWS, x -> x.copy(3, 0, 4, 0, 0), NOTHING);
        E.found("6 copy: NOTHING ahead of BEYOND, from", ROWS, x -> x.copy(3, 0, 0, 9, 1), NOTHING);
        E.found("6 copy: NOTHING ahead of BEYOND, to", ROWS, x -> x.copy(0, 9, 3, 0, 1), NOTHING);
        E.holds("6 copy: ROW 5 to ROW 0", Check.isRow(E.taken("6 copy: ROW 5 is the last", ROWS,
                x -> x.copy(5, 0, 0, 2, 1), 1), 0, 11, 12, 777));
        E.holds("6 copy: ROW 0 to ROW 5", Check.isRow(E.taken("6 copy: ROW 5 is the last", ROWS,
                x -> x.copy(0, 2, 5, 0, 1), 1), 5, 13));
    }

    private static void copyPlaces() {
        E.holds("6 copy: all of ROW 2 to the end of ROW 0", Check.isRow(E.taken("6 copy: up to the end", ROWS,
                x -> x.copy(2, 0, 0, 1, 2), 1), 0, 11, 21, 22));
        E.holds("6 copy: the end of ROW 0 to all of ROW 2", Check.isRow(E.taken("6 copy: up to the end", ROWS,
                x -> x.copy(0, 1, 2, 0, 2), 1), 2, 12, 13));
        E.found("6 copy: 3 of 2 are BEYOND, from", ROWS, x -> x.copy(2, 0, 0, 0, 3), BEYOND);
        E.found("6 copy: 3 of 2 are BEYOND, to", ROWS, x -> x.copy(0, 0, 2, 0, 3), BEYOND);
        E.found("6 copy: 2 from place 2 of three are BEYOND", ROWS, x -> x.copy(0, 2, 2, 0, 2), BEYOND);
        E.found("6 copy: 2 to place 2 of three are BEYOND", ROWS, x -> x.copy(2, 0, 0, 2, 2), BEYOND);
        E.found("6 copy: 1 from place 3 of three is BEYOND", ROWS, x -> x.copy(0, 3, 2, 0, 1), BEYOND);
        E.found("6 copy: 1 from none is BEYOND", ROWS, x -> x.copy(1, 0, 0, 0, 1), BEYOND);
        E.found("6 copy: 1 to none is BEYOND", ROWS, x -> x.copy(0, 0, 1, 0, 1), BEYOND);
        E.answers("6 copy: 0 from the end to the end", ROWS, x -> x.copy(0, 3, 2, 2, 0), 1);
        E.answers("6 copy: 0 from none to none", ROWS, x -> x.copy(1, 0, 1, 0, 0), 1);
        E.found("6 copy: 0 from behind the end is BEYOND", ROWS, x -> x.copy(0, 4, 2, 0, 0), BEYOND);
        E.found("6 copy: 0 to behind the end is BEYOND", ROWS, x -> x.copy(0, 0, 2, 3, 0), BEYOND);
        for (int i : new int[] {-1, LEAST, MOST}) {
            E.found("6 copy: from place " + i + " is BEYOND", ROWS, x -> x.copy(0, i, 2, 0, 1), BEYOND);
            E.found("6 copy: to place " + i + " is BEYOND", ROWS, x -> x.copy(0, 0, 2, i, 1), BEYOND);
            E.found("6 copy: as many as can be, from " + i, ROWS, x -> x.copy(0, i, 2, 0, MOST), BEYOND);
            E.found("6 copy: as many as can be, to " + i, ROWS, x -> x.copy(0, 0, 2, i, MOST), BEYOND);
        }
        Consumer<ThingsThrown> full = ROWS.andThen(x -> x.row(3, 40)).andThen(x -> x.row(4, 40))
                .andThen(x -> x.lay(3, 39, 8));
        ThingsThrown x = E.taken("6 copy: 40 of 40", full, y -> y.copy(3, 0, 4, 0, 40), 1);
        E.due("6 copy: it tells nothing by asked()", x.asked(), 777);
        x.at(4, 39);
        E.due("6 copy: the last of 40", x.asked(), 8);
        E.found("6 copy: 41 of 40 are BEYOND", full, y -> y.copy(3, 0, 4, 0, 41), BEYOND);
    }

    private static void copyOntoItself() {
        Consumer<ThingsThrown> five = ROWS.andThen(Edges.row(3, 1, 2, 3, 4, 5));
        E.holds("6 copy: itself, to later places, as if taken ahead", Check.isRow(E.taken("6 copy: itself", five,
                x -> x.copy(3, 0, 3, 1, 4), 1), 3, 1, 1, 2, 3, 4));
        E.holds("6 copy: itself, to sooner places, as if taken ahead", Check.isRow(E.taken("6 copy: itself", five,
                x -> x.copy(3, 1, 3, 0, 4), 1), 3, 2, 3, 4, 5, 5));
        E.answers("6 copy: itself, to the same places", five, x -> x.copy(3, 1, 3, 1, 4), 1);
    }

    private static void meanRefused() {
        for (int r : NO_ROWS) {
            E.refused("7 mean: ROW " + r + " is BAD", ROWS, x -> x.mean(r), BAD);
        }
        E.found("7 mean: ROW 3 is NOTHING", ROWS, x -> x.mean(3), NOTHING);
        E.found("7 mean: a torn one is NOTHING", ROWS.andThen(x -> x.tear(0)), x -> x.mean(0), NOTHING);
        E.found("7 mean: of none is NOUGHT", ROWS, x -> x.mean(1), NOUGHT);
        E.asked("7 mean: ROW 5 is the last", ROWS, x -> x.mean(5), 1, 777);
    }

    private static void mean(int want, int... values) {
        E.asked("7 mean: " + want, ROWS.andThen(Edges.row(3, values)), x -> x.mean(3), 1, want);
    }

    private static void meanIsCut() {
        mean(0, 0);
        mean(8, 8);
        mean(3, 3, 4);
        mean(-3, -3, -4);
        mean(0, 0, 1);
        mean(0, 0, -1);
        mean(0, 1, 1, 0);
        mean(1, 1, 2, 2);
        mean(-1, -1, -2, -2);
        mean(0, -1, 1);
        mean(0, LEAST, MOST);
        mean(MOST, MOST);
        mean(LEAST, LEAST);
        mean(MOST - 1, MOST, MOST - 1);
        mean(1 - MOST, -MOST, 1 - MOST);
        int[] forty = new int[40];
        java.util.Arrays.fill(forty, MOST);
        mean(MOST, forty);
        forty[39] = 0;
        mean((int) (39L * MOST / 40), forty);
        java.util.Arrays.fill(forty, LEAST);
        mean(LEAST, forty);
    }
}
