import java.util.function.Consumer;

/** The edges of promises 8 to 13: text, put, fault, things, thing, mark. */
final class ThingsEdgesTest {
    private static final int BAD = -1, STATE = -4, NONE = -9;
    private static final int NOTHING = 1, BEYOND = 2, UNLIKE = 3, SIZE = 5;
    private static final int LEAST = Integer.MIN_VALUE, MOST = Integer.MAX_VALUE;
    private static final int[] NO_TEXTS = {-1, 4, LEAST, MOST};
    private static final Edges E = new Edges("ThingsEdgesTest");

    /** TEXTS 0 and 3 are there, 1 is of none, 2 is missing; THINGS, a DEED, a kept SKY. */
    private static final Consumer<ThingsThrown> TEXTS = Edges.things("b0c1").andThen(x -> x.toss(3))
            .andThen(x -> x.keep(1)).andThen(x -> x.text(1, 0));

    public static void main(String[] args) {
        textNumbers();
        textSizes();
        putPlaces();
        putIsCut();
        faultNumbers();
        faultOfEachLetter();
        faultOfEachFigure();
        faultOfBlanks();
        faultOfEnds();
        faultOfManyThings();
        faultOfDues();
        thingsRefused();
        thingsHowMany();
        thingsAnew();
        thing();
        thingOfEachKind();
        markRefused();
        markOfEachKind();
        markCounts();
        E.end();
    }

    private static void textNumbers() {
        for (int t = 0; t <= 3; t++) {
            int text = t;
            ThingsThrown x = E.taken("8 text: TEXT " + t + " is one", TEXTS, y -> y.text(text, 4), 4);
            E.due("8 text: how many TEXTS there are", x.count(10), t == 2 ? 4 : 3);
            E.due("8 text: it tells nothing by asked()", x.asked(), 777);
        }
        for (int t : NO_TEXTS) {
            E.refused("8 text: TEXT " + t + " is BAD", TEXTS, x -> x.text(t, 1), BAD);
            E.refused("8 text: TEXT " + t + " is BAD ahead of SIZE", TEXTS, x -> x.text(t, -1), BAD);
            E.refused("8 text: TEXT " + t + " and 61 blanks are BAD", TEXTS, x -> x.text(t, 61), BAD);
        }
    }

    private static void textSizes() {
        for (int n : new int[] {0, 1, 59, 60}) {
            for (int t = 0; t <= 2; t += 2) {
                int text = t;
                ThingsThrown x = E.taken("8 text: " + n + " blanks", TEXTS, y -> y.text(text, n), n);
                for (int i = 0; i < n; i++) E.due("8 text: blank " + i + " of " + n, x.put(text, i, 98), 1032);
                E.due("8 text: no more than " + n, x.put(text, n, 98), -3);
                E.due("8 text: that is BEYOND", x.finding(), BEYOND);
            }
        }
        for (int n : new int[] {61, 62, MOST}) {
            E.refused("8 text: " + n + " blanks are BAD, TEXT 0 is there", TEXTS, x -> x.text(0, n), BAD);
            E.refused("8 text: " + n + " blanks are BAD, TEXT 2 is missing", TEXTS, x -> x.text(2, n), BAD);
        }
        for (int n : new int[] {-1, -2, LEAST}) {
            E.found("8 text: " + n + " blanks are SIZE, TEXT 0 is there", TEXTS, x -> x.text(0, n), SIZE);
            E.found("8 text: " + n + " blanks are SIZE, TEXT 2 is missing", TEXTS, x -> x.text(2, n), SIZE);
        }
    }

    private static void putPlaces() {
        String told = "b0c1";
        for (int i = 0; i <= 3; i++) {
            int place = i;
            ThingsThrown x = E.taken("9 put: byte " + i + " of four", TEXTS, y -> y.put(0, place, 7),
                    1000 + told.charAt(i));
            E.due("9 put: it tells nothing by asked()", x.asked(), 777);
            for (int j = 0; j <= 3; j++) {
                E.due("9 put: that byte alone", x.put(0, j, 0), 1000 + (i == j ? 7 : told.charAt(j)));
            }
        }
        for (int i : new int[] {-1, 4, LEAST, MOST}) {
            E.found("9 put: byte " + i + " of four is BEYOND", TEXTS, x -> x.put(0, i, 98), BEYOND);
        }
        E.found("9 put: byte 0 of none is BEYOND", TEXTS, x -> x.put(1, 0, 98), BEYOND);
        Consumer<ThingsThrown> full = TEXTS.andThen(x -> x.text(2, 60));
        E.taken("9 put: byte 59 of 60", full, x -> x.put(2, 59, 98), 1032);
        E.found("9 put: byte 60 of 60 is BEYOND", full, x -> x.put(2, 60, 98), BEYOND);
        for (int t : NO_TEXTS) {
            E.refused("9 put: TEXT " + t + " is BAD", TEXTS, x -> x.put(t, 0, 98), BAD);
            E.refused("9 put: TEXT " + t + " is BAD ahead of BEYOND", TEXTS, x -> x.put(t, -1, 98), BAD);
        }
        E.found("9 put: TEXT 2 is NOTHING", TEXTS, x -> x.put(2, 0, 98), NOTHING);
        E.found("9 put: TEXT 2 is NOTHING ahead of BEYOND", TEXTS, x -> x.put(2, 61, 98), NOTHING);
    }

    private static void putIsCut() {
        int[][] cut = {{127, 127}, {128, -128}, {129, -127}, {255, -1}, {256, 0}, {257, 1}, {-1, -1}, {-128, -128},
            {-129, 127}, {-256, 0}, {354, 98}, {65536 + 48, 48}, {MOST, -1}, {LEAST, 0}};
        for (int[] c : cut) {
            ThingsThrown x = E.taken("9 put: any int", TEXTS, y -> y.put(0, 0, c[0]), 1098);
            E.due("9 put: " + c[0] + " is cut to " + c[1], x.put(0, 0, 98), 1000 + c[1]);
        }
    }

    private static void faultNumbers() {
        for (int t : NO_TEXTS) {
            E.refused("10 fault: TEXT " + t + " is BAD", TEXTS, x -> x.fault(t), BAD);
        }
        E.found("10 fault: TEXT 2 is NOTHING", TEXTS, x -> x.fault(2), NOTHING);
        E.none("10 fault: TEXT 0 has none", TEXTS, x -> x.fault(0));
        E.none("10 fault: TEXT 3 has none", TEXTS, x -> x.fault(3));
        E.answers("10 fault: TEXT 1 of none", TEXTS, x -> x.fault(1), 0);
        E.answers("10 fault: it changes nothing", TEXTS.andThen(Edges.text(0, "b0b0")), x -> x.fault(0), 3);
    }

    /** What fault() tells, and things() with it. */
    private static void fault(String what, String text, int want) {
        ThingsThrown x = new ThingsThrown();
        Check.write(x, 2, text);
        E.due("10 fault: " + what + " '" + text + "'", x.fault(2), want);
        E.due("11 things: " + what + " '" + text + "'", x.things(2),
                want == NONE ? text.replaceAll("[^0-9]", "").length() : STATE);
        if (want != NONE) {
            E.due("11 things: " + what + ", there are none", x.count(0), 0);
        }
    }

    private static void faultOfEachLetter() {
        for (int sign = -128; sign <= 127; sign++) {
            ThingsThrown x = new ThingsThrown();
            Check.write(x, 0, "b0 ?1");
            x.put(0, 3, sign);
            int want = "bcflta".indexOf(sign) >= 0 ? NONE : sign == ' ' ? 4 : 3;
            E.due("10 fault: a letter by its number, " + sign, x.fault(0), want);
        }
        for (char letter : "bcflta".toCharArray()) fault("a letter", letter + "5", NONE);
        for (char letter : "BCFLTAdeghikmnopqrsuvwxyz`{".toCharArray()) fault("no letter", letter + "5", 0);
    }

    private static void faultOfEachFigure() {
        for (int sign = -128; sign <= 127; sign++) {
            ThingsThrown x = new ThingsThrown();
            Check.write(x, 0, " c? ");
            x.put(0, 2, sign);
            E.due("10 fault: a figure by its number, " + sign, x.fault(0), sign >= '0' && sign <= '9' ? NONE : 2);
        }
        fault("one figure alone", "b10", 2);
        fault("one figure alone", "b00", 2);
        fault("one figure alone", "c1 9", 3);
        fault("a figure without a letter", "5", 0);
        fault("a figure below 0", "b-1", 1);
    }

    private static void faultOfBlanks() {
        String blanks = " ".repeat(60);
        fault("blanks ahead, as many as wanted", blanks.substring(2) + "b0", NONE);
        fault("blanks behind, as many as wanted", "b0" + blanks.substring(2), NONE);
        fault("blanks between, as many as wanted", "b0" + blanks.substring(4) + "c1", NONE);
        fault("no blanks at all", "b0c1", NONE);
        fault("a blank within an item", "b 0", 1);
        fault("a blank within a later item", "b0 c 1", 4);
        fault("another sign than 32", "b0\tc1", 2);
        fault("another sign than 32", "\nb0", 0);
        fault("another sign than 32", "b0" + (char) 0, 2);
        fault("another sign than 32", "b0" + (char) 160, 2);
        fault("another sign than 32", "b0,c1", 2);
    }

    private static void faultOfEnds() {
        String blanks = " ".repeat(60);
        fault("of none: its size", "", 0);
        fault("blanks alone: its size", " ", 1);
        fault("blanks alone: its size", blanks, 60);
        fault("the end comes too early: its size", "b", 1);
        fault("the end comes too early: its size", "b0c", 3);
        fault("the end comes too early: its size", "b0 c1 t", 7);
        fault("the end comes too early: its size", blanks.substring(1) + "b", 60);
        fault("the last byte of 60", blanks.substring(1) + "x", 59);
        fault("the last byte of 60", blanks.substring(2) + "bx", 59);
        fault("the first of two", "b0c0x", 3);
        fault("the first of two", "xb", 0);
    }

    private static void faultOfManyThings() {
        fault("1 THING", "a9", NONE);
        fault("6 THINGS", "b0c1f2l3t4a5", NONE);
        fault("6 THINGS alike", "b9b8b7b6b5b4", NONE);
        fault("6 THINGS, blanks behind", "b9b8b7b6b5b4   ", NONE);
        fault("a seventh THING: its letter's place", "b0c1f2l3t4a5b6", 12);
        fault("a seventh THING: its letter's place", "b0c1f2l3t4a5  b6", 14);
        fault("a seventh THING, cut short", "b0c1f2l3t4a5b", 12);
        fault("a seventh THING, DUE as another", "b0c1f2l3t4a5b0", 12);
        fault("a seventh that is none", "b0c1f2l3t4a5?", 12);
        fault("the sixth cut short", "b0c1f2l3t4a", 11);
    }

    private static void faultOfDues() {
        fault("DUE as the one ahead: its figure's place", "b0c0", 3);
        fault("DUE as the first one: its figure's place", "b9 c1 l9", 7);
        fault("DUE as another of its KIND", "b3b3", 3);
        fault("the sixth DUE as the fifth", "b0c1f2l3t4a4", 11);
        fault("the first of two that are DUE as another", "b0b1b0b1", 5);
        for (int due = 0; due <= 9; due++) {
            fault("each figure once", "b" + due + "c" + (due + 1) % 10, NONE);
            fault("each figure once", "b" + due + "c" + due, 3);
        }
    }

    private static void thingsRefused() {
        for (int t : NO_TEXTS) {
            E.refused("11 things: TEXT " + t + " is BAD", TEXTS, x -> x.things(t), BAD);
        }
        E.found("11 things: TEXT 2 is NOTHING, not STATE", TEXTS, x -> x.things(2), NOTHING);
        E.refused("11 things: TEXT 1 of none is STATE", TEXTS, x -> x.things(1), STATE);
        E.refused("11 things: a FAULT behind THINGS is STATE", TEXTS.andThen(Edges.text(0, "f5l6t7a8x")),
                x -> x.things(0), STATE);
        E.refused("11 things: a FAULT, no THINGS before", Edges.noThings().andThen(Edges.text(0, "f5l5")),
                x -> x.things(0), STATE);
    }

    private static void thingsHowMany() {
        String told = "b0c1f2l3t4a5";
        for (int n = 1; n <= 6; n++) {
            ThingsThrown x = E.taken("11 things: how many", TEXTS.andThen(Edges.text(0, told.substring(0, 2 * n))),
                    y -> y.things(0), n);
            E.due("11 things: how many, count(0)", x.count(0), n);
            E.due("11 things: it tells nothing by asked()", x.asked(), 777);
            for (int i = 0; i < n; i++) {
                x.thing(i, 1);
                E.due("11 things: as they come", x.asked(), i);
            }
            E.due("11 things: no more", x.thing(n, 0), BAD);
        }
        ThingsThrown x = E.taken("11 things: DUE in 9", TEXTS.andThen(Edges.text(0, "a9")), y -> y.things(0), 1);
        E.due("11 things: THE SKY", x.count(3), 512);
    }

    private static void thingsAnew() {
        Consumer<ThingsThrown> scene = Edges.things("b0c1f2").andThen(x -> x.keep(0)).andThen(x -> x.toss(7))
                .andThen(x -> x.keep(1)).andThen(x -> x.exchange(0, 1)).andThen(x -> x.keep(2));
        ThingsThrown x = E.taken("11 things: anew", scene, y -> y.things(3), 3);
        E.due("11 things: BEAT 0", x.count(1), 0);
        E.due("11 things: no DEEDS", x.count(2), 0);
        E.due("11 things: none to undo", x.undo(1), BAD);
        E.due("11 things: THE SKY", x.count(3), 7);
        E.due("11 things: no THROWS", x.count(6), 0);
        E.due("11 things: no kept SKIES", x.count(11), 0);
        for (int i = 0; i < 3; i++) {
            x.thing(i, 3);
            E.due("11 things: not thrown yet", x.asked(), 0);
        }
        for (int k = 0; k <= 2; k++) {
            E.due("11 things: kept SKIES go", x.on(k), -3);
            E.due("11 things: they are NOTHING", x.finding(), NOTHING);
        }
        E.due("11 things: TEXTS stay", x.fault(0), NONE);
        E.holds("11 things: ROWS stay", Check.isRow(x, 5, 777));
        x = E.taken("11 things: anew by the same TEXT", scene, y -> y.things(0), 3);
        E.due("11 things: DUE as at first", x.count(3), 7);
        x.put(0, 0, 'x');
        E.due("11 things: a TEXT changed behind it changes none", x.count(0), 3);
        ThingsThrown full = E.taken("11 things: from 40 DEEDS on", Edges.things("b0b1").andThen(Edges.times(40,
                y -> y.toss(2))), y -> y.things(0), 2);
        E.due("11 things: there is room again", full.toss(2), 3);
    }

    private static void thing() {
        Consumer<ThingsThrown> two = Edges.things("c3a9");
        for (int i : new int[] {-1, 2, 5, 6, LEAST, MOST}) {
            E.refused("12 thing: THING " + i + " of two is BAD", two, x -> x.thing(i, 0), BAD);
        }
        for (int what : new int[] {-1, 4, LEAST, MOST}) {
            E.refused("12 thing: " + what + " is BAD", two, x -> x.thing(0, what), BAD);
        }
        for (int what = 0; what <= 3; what++) {
            int w = what;
            E.refused("12 thing: no THINGS", Edges.noThings(), x -> x.thing(0, w), BAD);
            E.asked("12 thing: the first, " + what, two, x -> x.thing(0, w), 1, new int[] {1, 3, 254, 0}[what]);
            E.asked("12 thing: the last, " + what, two, x -> x.thing(1, w), 1, new int[] {5, 9, 30, 0}[what]);
        }
        Consumer<ThingsThrown> six = Edges.things("b0c1f2l3t4a5");
        E.asked("12 thing: THING 5 of six", six, x -> x.thing(5, 1), 1, 5);
        E.refused("12 thing: THING 6 of six is BAD", six, x -> x.thing(6, 1), BAD);
        Consumer<ThingsThrown> thrown = Edges.things("f0").andThen(x -> x.toss(7));
        E.asked("12 thing: DUE in 13, behind HEIGHT 7", thrown, x -> x.thing(0, 1), 1, 13);
        E.asked("12 thing: DUE in 12, behind a REST", thrown.andThen(x -> x.rest()), x -> x.thing(0, 1), 1, 12);
        Consumer<ThingsThrown> often = Edges.things("b0b1").andThen(Edges.times(40, x -> x.toss(2)));
        E.asked("12 thing: thrown 20 times of 40", often, x -> x.thing(1, 3), 1, 20);
        E.asked("12 thing: a DEED undone is none", often.andThen(x -> x.undo(39)), x -> x.thing(1, 3), 1, 19);
        E.asked("12 thing: EXCHANGED is not thrown", two.andThen(x -> x.exchange(0, 1)), x -> x.thing(0, 3), 1, 0);
    }

    private static void thingOfEachKind() {
        int[] heights = {254, 254, 254, 254, 248, 30};
        for (int kind = 0; kind <= 5; kind++) {
            Consumer<ThingsThrown> one = Edges.things("bcflta".charAt(kind) + "0");
            E.asked("12 thing: KIND", one, x -> x.thing(0, 0), 1, kind);
            E.asked("12 thing: HEIGHTS it can be thrown to", one, x -> x.thing(0, 2), 1, heights[kind]);
        }
    }

    private static void markRefused() {
        Consumer<ThingsThrown> two = Edges.things("c3a9");
        for (int i : new int[] {-1, 2, 6, LEAST, MOST}) {
            E.refused("13 mark: THING " + i + " of two is BAD", two, x -> x.mark(i, 1), BAD);
        }
        for (int kind : new int[] {0, -1, 6, LEAST, MOST}) {
            E.refused("13 mark: KIND " + kind + " is BAD", two, x -> x.mark(0, kind), BAD);
            E.refused("13 mark: KIND " + kind + " is BAD of an ANVIL", two, x -> x.mark(1, kind), BAD);
        }
        E.refused("13 mark: KIND 0 of a BALL is BAD, too", Edges.things("b0"), x -> x.mark(0, 0), BAD);
        E.refused("13 mark: no THINGS", Edges.noThings(), x -> x.mark(0, 1), BAD);
        E.answers("13 mark: KIND 1 is the first", two, x -> x.mark(0, 1), 4);
        E.answers("13 mark: KIND 5 is the last", two, x -> x.mark(1, 5), 0);
    }

    /** By KIND of the THING (a row) and KIND asked for (a place): what is told, or -3: UNLIKE. */
    private static void markOfEachKind() {
        int[][] want = {{-3, -3, -3, -3, -3}, {4, -3, -3, -3, -3}, {-3, 0, -3, -3, -3}, {-3, -3, 6, -3, -3},
            {3, -3, -3, 0, -3}, {-3, -3, 3, -3, 0}};
        for (int own = 0; own <= 5; own++) {
            Consumer<ThingsThrown> one = Edges.things("bcflta".charAt(own) + "0");
            for (int kind = 1; kind <= 5; kind++) {
                int k = kind;
                String what = "13 mark: KIND " + kind + " of what is of KIND " + own;
                if (want[own][kind - 1] == -3) {
                    E.found(what + " is UNLIKE", one, x -> x.mark(0, k), UNLIKE);
                } else {
                    E.answers(what, one, x -> x.mark(0, k), want[own][kind - 1]);
                }
            }
        }
    }

    private static void markCounts() {
        for (int due = 0; due <= 9; due++) {
            E.answers("13 mark: a FEATHER DUE in " + due + ", by 2, cut", Edges.things("f" + due), x -> x.mark(0, 2),
                    due / 2);
        }
        E.answers("13 mark: a FEATHER DUE in 13, by 2, cut", Edges.things("f0").andThen(x -> x.toss(7)),
                x -> x.mark(0, 2), 6);
        Consumer<ThingsThrown> torches = Edges.things("t9t0c1t4a2t7");
        int[] ahead = {3, 0, -1, 1, -1, 2};
        for (int i : new int[] {0, 1, 3, 5}) {
            E.answers("13 mark: TORCHES ahead of THING " + i, torches, x -> x.mark(i, 4), ahead[i]);
        }
        Consumer<ThingsThrown> anvils = Edges.things("a9b0a8a3f1a5");
        int[] behind = {0, -1, 1, 3, -1, 2};
        for (int i : new int[] {0, 2, 3, 5}) {
            E.answers("13 mark: THINGS behind THING " + i, anvils, x -> x.mark(i, 5), behind[i]);
        }
        E.answers("13 mark: all behind an ANVIL that is DUE now", Edges.things("b1c2f3l4t5a0"), x -> x.mark(5, 5), 5);
        E.answers("13 mark: all TORCHES ahead of the last", Edges.things("t0t1t2t3t4t5"), x -> x.mark(5, 4), 5);
        E.answers("13 mark: a CLUB ahead of a TORCH is none", Edges.things("c0t1"), x -> x.mark(1, 4), 0);
    }
}
