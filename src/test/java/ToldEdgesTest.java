import java.util.ArrayList;
import java.util.List;
import java.util.function.Consumer;
import java.util.function.ToLongFunction;

/** The edges of promises 33 to 39: asked, upper, lower, count, finding, findings, digest. */
final class ToldEdgesTest {
    private static final int BAD = -1, FINDING = -3, NONE = -9;
    private static final int NOTHING = 1, BEYOND = 2, UNLIKE = 3, NOUGHT = 4, SIZE = 5;
    private static final int LEAST = Integer.MIN_VALUE, MOST = Integer.MAX_VALUE;
    private static final Edges E = new Edges("ToldEdgesTest");

    public static void main(String[] args) {
        before();
        askedByEach();
        askedNotByOthers();
        askedNotByRefusedNorNone();
        ratioByEach();
        ratioNotByOthers();
        countNumbers();
        countOfThings();
        countOfDeeds();
        countOfSheets();
        countOfKept();
        findingLatest();
        findingsNumbers();
        findingsOfEach();
        digestOfMissing();
        digestOfEachPart();
        digestIsAsTold();
        digestChangesNothing();
        E.end();
    }

    private static void before() {
        for (ThingsThrown x : new ThingsThrown[] {new ThingsThrown(), Check.with("b0c1")}) {
            E.due("33 asked: 0 before", x.asked(), 0);
            E.due("34 upper: 0 before", x.upper(), 0);
            E.due("35 lower: 1 before", x.lower(), 1);
            E.due("37 finding: 0 before any", x.finding(), 0);
            for (int f = 1; f <= 5; f++) E.due("38 findings: none before, " + f, x.findings(f), 0);
        }
        ThingsThrown x = new ThingsThrown();
        x.at(0, 0);
        x.at(6, 0);
        x.odds(0, 3);
        E.due("33 asked: 0 before, behind refused ones, too", x.asked(), 0);
        E.due("34 upper: 0 before, behind refused ones, too", x.upper(), 0);
        E.due("35 lower: 1 before, behind refused ones, too", x.lower(), 1);
    }

    /** Something DUE now and a CLUB, a ROW 0 of HEIGHTS, a ROW 1 of no pairs. */
    private static final Consumer<ThingsThrown> SCENE = Edges.things("b0c1").andThen(Edges.row(0, 3, 4))
            .andThen(Edges.row(1)).andThen(x -> x.keep(1));

    private static void askedByEach() {
        E.due("33 asked: lay()", E.taken("3 lay", SCENE, x -> x.lay(0, 1, 9), 1).asked(), 4);
        E.asked("33 asked: at()", SCENE, x -> x.at(0, 1), 1, 4);
        E.asked("33 asked: mean()", SCENE, x -> x.mean(0), 1, 3);
        E.asked("33 asked: thing()", SCENE, x -> x.thing(1, 0), 1, 1);
        E.asked("33 asked: may()", SCENE, x -> x.may(), 252, 0);
        E.asked("33 asked: run()", SCENE, x -> x.run(0), 2, 2 | 8);
        E.both("33 asked: ways()", SCENE, x -> x.ways(1), 4, 1);
        E.asked("33 asked: next()", SCENE, x -> x.next(0, 1), 2, 2);
        E.asked("33 asked: duel()", SCENE, x -> x.duel(0), 1, 1);
        ThingsThrown x = E.taken("33 asked", SCENE, y -> y.at(0, 1), 1);
        E.due("33 asked: told twice it is the same", x.asked(), x.asked());
        x.thing(0, 2);
        E.due("33 asked: the latest", x.asked(), 254);
    }

    private static void notAsked(String call, ToLongFunction<ThingsThrown> made) {
        ThingsThrown x = E.taken("33 asked: " + call, SCENE, y -> made.applyAsLong(y) >= 0 ? 1 : 0, 1);
        E.due("33 asked: not by " + call, x.asked(), 777);
    }

    private static void askedNotByOthers() {
        notAsked("row()", x -> x.row(0, 2));
        notAsked("tear()", x -> x.tear(0));
        notAsked("copy()", x -> x.copy(0, 0, 0, 1, 1));
        notAsked("text()", x -> x.text(1, 3));
        notAsked("put()", x -> x.put(0, 0, 99));
        notAsked("fault()", x -> x.text(0, 1) * x.fault(0));
        notAsked("things()", x -> x.things(0));
        notAsked("mark()", x -> x.mark(1, 1));
        notAsked("toss()", x -> x.toss(3));
        notAsked("rest()", x -> x.toss(3) + x.toss(7) + x.rest());
        notAsked("exchange()", x -> x.exchange(0, 1));
        notAsked("undo()", x -> x.undo(0));
        notAsked("keep()", x -> x.keep(0));
        notAsked("on()", x -> x.on(1));
        notAsked("lands()", x -> x.lands(1, 3));
        notAsked("rounds()", x -> x.row(0, 1) + x.lay(0, 0, 2) + x.at(5, 0) + x.rounds(0));
        notAsked("fewest()", x -> x.fewest(1 | 4, 0));
        notAsked("height()", x -> x.height(1 | 4));
        notAsked("kinds()", x -> x.kinds(0, 1));
        notAsked("odds()", x -> x.odds(0, 3));
        notAsked("mid()", x -> x.mid(0, 3));
        notAsked("lots()", x -> x.lots(3, 3));
        notAsked("count()", x -> x.count(3));
        notAsked("findings()", x -> x.findings(1));
    }

    private static void askedNotByRefusedNorNone() {
        E.refused("33 asked: lay() BAD", SCENE, x -> x.lay(6, 0, 1), BAD);
        E.found("33 asked: lay() BEYOND", SCENE, x -> x.lay(0, 2, 1), BEYOND);
        E.found("33 asked: at() BEYOND", SCENE, x -> x.at(0, 2), BEYOND);
        E.found("33 asked: mean() NOUGHT", SCENE, x -> x.mean(1), NOUGHT);
        E.refused("33 asked: thing() BAD", SCENE, x -> x.thing(0, 4), BAD);
        E.none("33 asked: may() NONE", SCENE.andThen(x -> x.toss(7)).andThen(x -> x.toss(7)), x -> x.may());
        E.found("33 asked: run() UNLIKE", SCENE.andThen(x -> x.lay(0, 1, 8)), x -> x.run(0), UNLIKE);
        E.refused("33 asked: ways() BAD", SCENE, x -> x.ways(5), BAD);
        E.none("33 asked: next() NONE", SCENE.andThen(Edges.row(1, 1, 15)), x -> x.next(0, 1));
        E.found("33 asked: next() SIZE", SCENE.andThen(Edges.row(1, 1)), x -> x.next(0, 1), SIZE);
        E.refused("33 asked: duel() BAD", SCENE, x -> x.duel(3), BAD);
    }

    private static void ratioByEach() {
        E.both("34 upper: ways()", SCENE, x -> x.ways(2), 4, 2);
        E.ratio("34 upper: odds()", SCENE, x -> x.odds(0, 3), 1, 1);
        E.ratio("34 upper: mid()", SCENE, x -> x.mid(0, 3), 2, 1);
        E.both("35 lower: 1 by ways(), 0 of them", Edges.things("c0"), x -> x.ways(1), 0, 0);
        Consumer<ThingsThrown> half = Edges.things("b0b1").andThen(Edges.row(0, 1));
        E.ratio("34 upper: in lowest terms", half, x -> x.odds(0, 6), 1, 2);
        E.ratio("35 lower: above 0, 0 by 1", half, x -> x.odds(0, 0), 0, 1);
        E.ratio("35 lower: above 0, 0 by 1", half, x -> x.mid(0, 0), 0, 1);
        ThingsThrown x = E.taken("34 upper", half, y -> y.odds(0, 5), 1);
        E.due("34 upper: 5", x.upper(), 5);
        E.due("35 lower: 12", x.lower(), 12);
        x.ways(1);
        E.due("34 upper: told last", x.upper(), 1);
        E.due("35 lower: told last", x.lower(), 1);
    }

    private static void ratioNotByOthers() {
        ThingsThrown x = E.taken("34 upper: 3 by 4 to begin with", SCENE, y -> y.upper() * 10 + y.lower(), 34);
        x.lay(0, 0, 3);
        x.mean(0);
        x.thing(0, 1);
        x.may();
        x.run(0);
        x.rounds(0);
        x.fewest(5, 2);
        x.height(5);
        x.kinds(0, 1);
        x.next(0, 1);
        x.duel(1);
        x.odds(0, 13);
        x.mid(4, 3);
        x.ways(0);
        x.toss(3);
        x.exchange(0, 1);
        x.lots(2, 5);
        x.on(1);
        x.undo(0);
        x.things(0);
        x.count(5);
        x.digest();
        E.due("34 upper: by no other one", x.upper(), 3);
        E.due("35 lower: by no other one", x.lower(), 4);
    }

    private static void countNumbers() {
        for (int what : new int[] {-1, 12, LEAST, MOST}) {
            E.refused("36 count: " + what + " is BAD", SCENE, x -> x.count(what), BAD);
        }
        int[] want = {2, 0, 0, 3, 0, 1, 0, 1, 0, 3, 2, 1};
        for (int what = 0; what <= 11; what++) {
            int w = what;
            E.answers("36 count: " + what, SCENE, x -> x.count(w), want[what]);
        }
    }

    private static void count(String sentence, Consumer<ThingsThrown> scene, int what, int want) {
        E.answers("36 count: " + sentence, scene, x -> x.count(what), want);
    }

    private static void countOfThings() {
        String[] told = {"b1", "b1c0", "t1f2a3", "t0a1t2a3", "c0t1c2t3c4", "l0a1l2a3l4a5"};
        int[][] want = {{1, 2, NONE, 1, 0, 0}, {2, 3, 1, 1, 1, 0}, {3, 14, NONE, 6, 1, 1}, {4, 15, 0, 6, 2, 2},
            {5, 31, 0, 10, 5, 0}, {6, 63, 0, 15, 0, 6}};
        int[] what = {0, 3, 4, 5, 7, 8};
        for (int k = 0; k < 6; k++) {
            for (int w = 0; w < 6; w++) {
                count(what[w] + " of " + told[k], Edges.things(told[k]), what[w], want[k][w]);
            }
        }
        for (int w = 0; w < 6; w++) {
            count(what[w] + ", no THINGS", Edges.noThings(), what[w], what[w] == 4 ? NONE : 0);
        }
        count("THE SKY, DUE in 13", Edges.things("f0").andThen(x -> x.toss(7)), 3, 1 << 13);
        count("DUE together, in 13", Edges.things("f0").andThen(x -> x.toss(7)), 5, 13);
        count("the last of six is DUE now", Edges.things("b1c2f3l4t5a0"), 4, 5);
    }

    private static void countOfDeeds() {
        Consumer<ThingsThrown> some = Edges.things("b1c0f2").andThen(x -> x.toss(7)).andThen(x -> x.toss(6))
                .andThen(x -> x.exchange(0, 1)).andThen(x -> x.toss(7)).andThen(x -> x.rest());
        int[][] want = {{4, 5, 3}, {3, 4, 3}, {2, 3, 2}, {2, 2, 2}, {1, 1, 1}, {0, 0, 0}};
        for (int undone = 0; undone <= 5; undone++) {
            int from = 5 - undone;
            Consumer<ThingsThrown> left = some.andThen(x -> x.undo(from));
            count("the BEAT, " + undone + " undone", left, 1, want[undone][0]);
            count("DEEDS, " + undone + " undone", left, 2, want[undone][1]);
            count("THROWS that were made, " + undone + " undone", left, 6, want[undone][2]);
        }
        Consumer<ThingsThrown> forty = Edges.things("b0b1").andThen(Edges.times(40, x -> x.toss(2)));
        count("BEAT 40", forty, 1, 40);
        count("40 DEEDS", forty, 2, 40);
        count("40 THROWS", forty, 6, 40);
        count("no REST is a THROW", Edges.things("b9").andThen(Edges.times(9, x -> x.rest())), 6, 0);
    }

    private static void countOfSheets() {
        ThingsThrown x = new ThingsThrown();
        for (int r = 0; r <= 5; r++) {
            x.row(r, r % 2);
            E.due("36 count: ROWS, of none too", x.count(9), r + 1);
        }
        x.row(0, 5);
        E.due("36 count: a ROW anew is no other one", x.count(9), 6);
        for (int r = 0; r <= 5; r++) {
            x.tear(5 - r);
            E.due("36 count: ROWS that are there", x.count(9), 5 - r);
        }
        for (int t = 0; t <= 3; t++) {
            x.text(t, t % 2);
            E.due("36 count: TEXTS, of none too", x.count(10), t + 1);
        }
        x.text(0, 5);
        E.due("36 count: a TEXT anew is no other one", x.count(10), 4);
    }

    private static void countOfKept() {
        ThingsThrown x = Check.with("b0");
        for (int k = 0; k <= 2; k++) {
            E.due("36 count: kept SKIES", x.count(11), k);
            x.keep(k);
        }
        E.due("36 count: three kept SKIES", x.count(11), 3);
        x.keep(0);
        x.on(1);
        x.undo(0);
        E.due("36 count: gone on from, they are kept still", x.count(11), 3);
        x.things(0);
        E.due("36 count: things() lets them go", x.count(11), 0);
    }

    private static void findingLatest() {
        ThingsThrown x = new ThingsThrown();
        x.row(0, 0);
        int[] answers = {x.tear(1), x.at(0, 0), x.row(0, -1), x.mean(0), x.tear(1)};
        for (int answer : answers) E.due("37 finding: FINDING", answer, FINDING);
        E.due("37 finding: the latest", x.finding(), NOTHING);
        x.mean(0);
        E.due("37 finding: the latest", x.finding(), NOUGHT);
        x.at(9, 9);
        x.toss(9);
        x.toss(1);
        E.due("37 finding: BAD and STATE are none", x.finding(), NOUGHT);
        x.row(1, 2);
        x.at(1, 1);
        E.due("37 finding: what is not refused leaves it", x.finding(), NOUGHT);
        E.due("37 finding: told twice it is the same", x.finding(), NOUGHT);
        E.due("38 findings: BEYOND, once", x.findings(BEYOND), 1);
        E.due("38 findings: NOTHING, twice", x.findings(NOTHING), 2);
        E.due("38 findings: NOUGHT, twice", x.findings(NOUGHT), 2);
        E.due("38 findings: SIZE, once", x.findings(SIZE), 1);
        E.due("38 findings: UNLIKE, never", x.findings(UNLIKE), 0);
    }

    private static void findingsNumbers() {
        for (int f : new int[] {0, 6, -1, LEAST, MOST}) {
            E.refused("38 findings: " + f + " is BAD", SCENE, x -> x.findings(f), BAD);
        }
        for (int f = 1; f <= 5; f++) {
            int finding = f;
            E.answers("38 findings: " + f, SCENE, x -> x.findings(finding), 1);
        }
        ThingsThrown x = new ThingsThrown();
        for (int k = 1; k <= 400; k++) x.tear(0);
        E.due("38 findings: as often as it was answered", x.findings(NOTHING), 400);
    }

    /** Each call that answers a FINDING: of which kind it is, and that it is counted. */
    private static void findingsOfEach() {
        Consumer<ThingsThrown> scene = SCENE.andThen(Edges.row(2, 8)).andThen(x -> x.row(3, 40));
        E.found("38 findings: row() SIZE", scene, x -> x.row(0, -1), SIZE);
        E.found("38 findings: lay() NOTHING", scene, x -> x.lay(4, 0, 1), NOTHING);
        E.found("38 findings: at() BEYOND", scene, x -> x.at(0, -1), BEYOND);
        E.found("38 findings: tear() NOTHING", scene, x -> x.tear(4), NOTHING);
        E.found("38 findings: copy() BEYOND", scene, x -> x.copy(0, 0, 1, 0, 1), BEYOND);
        E.found("38 findings: mean() NOUGHT", scene, x -> x.mean(1), NOUGHT);
        E.found("38 findings: text() SIZE", scene, x -> x.text(0, -1), SIZE);
        E.found("38 findings: put() BEYOND", scene, x -> x.put(0, 4, 1), BEYOND);
        E.found("38 findings: fault() NOTHING", scene, x -> x.fault(1), NOTHING);
        E.found("38 findings: things() NOTHING", scene, x -> x.things(1), NOTHING);
        E.found("38 findings: mark() UNLIKE", scene, x -> x.mark(0, 1), UNLIKE);
        E.found("38 findings: on() NOTHING", scene, x -> x.on(0), NOTHING);
        E.found("38 findings: run() UNLIKE", scene, x -> x.run(2), UNLIKE);
        E.found("38 findings: run() SIZE", scene, x -> x.run(3), SIZE);
        E.found("38 findings: rounds() SIZE", scene, x -> x.rounds(1), SIZE);
        E.found("38 findings: kinds() SIZE", scene, x -> x.kinds(0, 2), SIZE);
        E.found("38 findings: next() NOTHING", scene, x -> x.next(0, 4), NOTHING);
        E.found("38 findings: odds() SIZE", scene, x -> x.odds(1, 0), SIZE);
        E.found("38 findings: mid() UNLIKE", scene, x -> x.mid(2, 0), UNLIKE);
    }

    private static long digestOf(List<Integer> values) {
        long h = 17;
        for (int v : values) h = 31 * h + v;
        return h;
    }

    /** The 12 counts, THINGS, kept SKIES, ROWS and TEXTS by what the other calls tell of them. */
    private static long digestByCalls(ThingsThrown x, int[] kept, int[][] rows, int[][] texts) {
        List<Integer> v = new ArrayList<>();
        for (int what = 0; what <= 11; what++) v.add(x.count(what));
        for (int i = 0; i < x.count(0); i++) {
            for (int what = 0; what <= 3; what++) {
                x.thing(i, what);
                v.add(x.asked());
            }
        }
        for (int deeds : kept) v.add(deeds);
        for (int[][] sheets : new int[][][] {rows, texts}) {
            for (int[] sheet : sheets) {
                v.add(sheet == null ? -1 : sheet.length);
                if (sheet != null) for (int place : sheet) v.add(place);
            }
        }
        return digestOf(v);
    }

    private static void digestOfMissing() {
        int[] gone = {-1, -1, -1};
        ThingsThrown x = new ThingsThrown();
        E.due("39 digest: all missing", x.digest(), digestByCalls(x, gone, new int[6][], new int[4][]));
        for (int r = 0; r <= 5; r++) {
            ThingsThrown y = new ThingsThrown();
            y.row(r, 0);
            int[][] rows = new int[6][];
            rows[r] = new int[0];
            E.due("39 digest: ROW " + r + " of none is 0", y.digest(), digestByCalls(y, gone, rows, new int[4][]));
            y.tear(r);
            E.due("39 digest: torn it is -1", y.digest(), x.digest());
        }
        for (int t = 0; t <= 3; t++) {
            ThingsThrown y = new ThingsThrown();
            y.text(t, 0);
            int[][] texts = new int[4][];
            texts[t] = new int[0];
            E.due("39 digest: TEXT " + t + " of none is 0", y.digest(), digestByCalls(y, gone, new int[6][], texts));
        }
        for (int k = 0; k <= 2; k++) {
            ThingsThrown y = Check.with("b0");
            y.keep(k);
            int[] kept = {-1, -1, -1};
            kept[k] = 0;
            int[][] texts = {{'b', '0'}, null, null, null};
            E.due("39 digest: no DEEDS kept in " + k + " are 0", y.digest(),
                    digestByCalls(y, kept, new int[6][], texts));
        }
    }

    private static void digestOfEachPart() {
        ThingsThrown x = Check.with("a0t3f9");
        x.keep(1);
        x.toss(3);
        x.keep(0);
        x.exchange(0, 2);
        x.lots(20, 9);
        x.keep(2);
        Check.fill(x, 0, LEAST, -1, MOST);
        int[] forty = new int[40];
        for (int i = 0; i < 40; i++) forty[i] = i * i - 7;
        Check.fill(x, 5, forty);
        x.text(3, 60);
        int[] sixty = new int[60];
        for (int i = 0; i < 60; i++) {
            sixty[i] = (byte) (9 * i + 100);
            x.put(3, i, 9 * i + 100);
        }
        int[][] rows = {{LEAST, -1, MOST}, null, null, null, null, forty};
        int[][] texts = {{'a', '0', 't', '3', 'f', '9'}, null, null, sixty};
        E.due("39 digest: each part in its place", x.digest(), digestByCalls(x, new int[] {1, 0, 22}, rows, texts));
    }

    private static void digestIsAsTold() {
        ThingsThrown x = Check.with("t3");
        x.rest();
        E.due("39 digest: one THING behind a REST", x.digest(), digestOf(List.of(1, 1, 1, 4, NONE, 2, 0, 1, 0, 0, 1, 0,
                4, 2, 248, 0, -1, -1, -1, -1, -1, -1, -1, -1, -1, 2, 116, 51, -1, -1, -1)));
    }

    private static void digestChangesNothing() {
        ThingsThrown x = E.taken("39 digest", SCENE, y -> 1, 1);
        long first = x.digest();
        E.due("39 digest: told twice it is the same", x.digest(), first);
        E.due("39 digest: it tells nothing by asked()", x.asked(), 777);
        x.odds(0, 13);
        x.at(0, 2);
        E.due("39 digest: refused calls do not change it", x.digest(), first);
        x.at(0, 1);
        x.ways(2);
        E.due("39 digest: what is told does not change it", x.digest(), first);
        x.lay(0, 1, 5);
        E.holds("39 digest: a place of a ROW changes it", x.digest() != first);
    }
}
