/** Promises 8 to 13: text, put, fault, things, thing, mark. */
final class ThingsTest {
    private static final int BAD = -1, STATE = -4, NONE = -9;
    private static final int NOTHING = 1, BEYOND = 2, UNLIKE = 3, SIZE = 5;
    private static final Check CHECK = new Check("ThingsTest");

    public static void main(String[] args) {
        text();
        put();
        fault();
        things();
        thingsAnew();
        thing();
        mark();
        markRefused();
        CHECK.end();
    }

    private static void text() {
        ThingsThrown x = new ThingsThrown();
        CHECK.due("8 text(3, 60)", x.text(3, 60), 60);
        CHECK.due("8 put(3, 59, 65)", x.put(3, 59, 65), 1032);
        CHECK.due("8 text(0, 0)", x.text(0, 0), 0);
        CHECK.due("8 count(10)", x.count(10), 2);
        CHECK.due("8 text(3, 60) anew", x.text(3, 60), 60);
        CHECK.due("8 blanks again", x.put(3, 59, 32), 1032);
        CHECK.due("8 text(4, 1)", x.text(4, 1), BAD);
        CHECK.due("8 text(-1, 1)", x.text(-1, 1), BAD);
        CHECK.due("8 text(3, 61)", x.text(3, 61), BAD);
        CHECK.due("8 text(4, -1): BAD comes first", x.text(4, -1), BAD);
        CHECK.found("8 text(3, -1)", x, x.text(3, -1), SIZE);
    }

    private static void put() {
        ThingsThrown x = new ThingsThrown();
        x.text(1, 2);
        CHECK.due("9 put(1, 1, 98)", x.put(1, 1, 98), 1032);
        CHECK.due("9 put(1, 1, 256 + 99)", x.put(1, 1, 256 + 99), 1098);
        CHECK.due("9 put(1, 1, 128)", x.put(1, 1, 128), 1099);
        CHECK.due("9 put(1, 1, 255): a byte is -128 .. 127", x.put(1, 1, 255), 872);
        CHECK.due("9 put(1, 1, -200)", x.put(1, 1, -200), 999);
        CHECK.due("9 put(1, 1, 0)", x.put(1, 1, 0), 1056);
        CHECK.due("9 put(1, 0, 0): the other one is as it was", x.put(1, 0, 0), 1032);
        CHECK.due("9 put(4, 0, 1)", x.put(4, 0, 1), BAD);
        CHECK.due("9 put(-1, 0, 1)", x.put(-1, 0, 1), BAD);
        CHECK.found("9 put(2, 5, 1)", x, x.put(2, 5, 1), NOTHING);
        CHECK.found("9 put(1, 2, 1)", x, x.put(1, 2, 1), BEYOND);
        CHECK.found("9 put(1, -1, 1)", x, x.put(1, -1, 1), BEYOND);
    }

    private static void fault(String text, int want) {
        ThingsThrown x = new ThingsThrown();
        Check.write(x, 2, text);
        CHECK.due("10 fault of '" + text + "'", x.fault(2), want);
        CHECK.due("11 things of '" + text + "'", x.things(2),
                want == NONE ? text.replaceAll("[^0-9]", "").length() : STATE);
    }

    private static void fault() {
        fault("b0", NONE);
        fault("  b0c1 f9   l4t5a7  ", NONE);
        fault("a9", NONE);
        fault("", 0);
        fault("    ", 4);
        fault("b", 1);
        fault("b0 c", 4);
        fault("b 0", 1);
        fault("bb0", 1);
        fault("x0", 0);
        fault("B0", 0);
        fault("  0b", 2);
        fault("b12", 2);
        fault("b0c0", 3);
        fault("b0 c1 l0", 7);
        fault("b:", 1);
        fault("b/", 1);
        fault("b0b1b2b3b4b5", NONE);
        fault("b0b1b2b3b4b5  ", NONE);
        fault("b0b1b2b3b4b5 b6", 13);
        fault("b0b1b2b3b4b5b", 12);
        fault("b0,c1", 2);
        ThingsThrown x = new ThingsThrown();
        x.text(0, 2);
        x.put(0, 0, 98 + 256);
        x.put(0, 1, 48 - 256);
        CHECK.due("10 bytes are cut", x.fault(0), NONE);
        CHECK.due("10 fault(4)", x.fault(4), BAD);
        CHECK.due("10 fault(-1)", x.fault(-1), BAD);
        CHECK.found("10 fault(1)", x, x.fault(1), NOTHING);
    }

    private static void things() {
        ThingsThrown x = Check.with(" t3 a5 f9 ");
        CHECK.due("11 count(0)", x.count(0), 3);
        CHECK.due("11 count(3)", x.count(3), 8 + 32 + 512);
        CHECK.due("11 things(4)", x.things(4), BAD);
        CHECK.due("11 things(-1)", x.things(-1), BAD);
        CHECK.found("11 things(1)", x, x.things(1), NOTHING);
        Check.write(x, 1, "b0b0");
        long before = x.digest();
        CHECK.due("11 things of a FAULT", x.things(1), STATE);
        CHECK.due("11 what is refused changes nothing", x.digest(), before);
    }

    private static void thingsAnew() {
        ThingsThrown x = Check.with("b0c1");
        x.toss(3);
        x.toss(4);
        for (int k = 0; k <= 2; k++) x.keep(k);
        Check.write(x, 1, "f2l7a9");
        CHECK.due("11 fault tells nothing", x.fault(1), NONE);
        CHECK.due("11 and leaves THINGS", x.count(0), 2);
        CHECK.due("11 things anew", x.things(1), 3);
        CHECK.due("11 BEAT", x.count(1), 0);
        CHECK.due("11 DEEDS", x.count(2), 0);
        CHECK.due("11 THE SKY", x.count(3), 4 + 128 + 512);
        CHECK.due("11 THROWS", x.count(6), 0);
        CHECK.due("11 kept SKIES", x.count(11), 0);
        for (int k = 0; k <= 2; k++) CHECK.found("11 kept SKIES go", x, x.on(k), NOTHING);
    }

    private static void thing() {
        ThingsThrown x = Check.with("b0c1f2l4t5a7");
        int[] due = {0, 1, 2, 4, 5, 7};
        int[] heights = {254, 254, 254, 254, 248, 30};
        for (int i = 0; i < 6; i++) {
            CHECK.told("12 KIND of " + i, x, x.thing(i, 0), i);
            CHECK.told("12 BEATS of " + i, x, x.thing(i, 1), due[i]);
            CHECK.told("12 HEIGHTS of " + i, x, x.thing(i, 2), heights[i]);
            CHECK.told("12 THROWS of " + i, x, x.thing(i, 3), 0);
        }
        x.toss(6);
        CHECK.told("12 thing(0, 1) behind a THROW", x, x.thing(0, 1), 5);
        CHECK.told("12 thing(5, 1) behind a THROW", x, x.thing(5, 1), 6);
        CHECK.told("12 thing(0, 3) behind a THROW", x, x.thing(0, 3), 1);
        CHECK.due("12 thing(6, 0)", x.thing(6, 0), BAD);
        CHECK.due("12 thing(-1, 0)", x.thing(-1, 0), BAD);
        CHECK.due("12 thing(0, 4)", x.thing(0, 4), BAD);
        CHECK.due("12 thing(0, -1)", x.thing(0, -1), BAD);
        CHECK.due("33 asked() as before", x.asked(), 1);
    }

    private static void mark() {
        ThingsThrown x = Check.with("t7c1f9l4t5a2");
        CHECK.due("13 a CLUB: 1 3 5 7", x.mark(1, 1), 4);
        CHECK.due("13 a TORCH as a CLUB: 3 5 7", x.mark(0, 1), 3);
        CHECK.due("13 a FEATHER, by 2, cut", x.mark(2, 2), 4);
        CHECK.due("13 a LEAD: 2 .. 7", x.mark(3, 3), 6);
        CHECK.due("13 an ANVIL as a LEAD: 2 3 4", x.mark(5, 3), 3);
        CHECK.due("13 TORCHES ahead of the later one", x.mark(0, 4), 1);
        CHECK.due("13 TORCHES ahead of the sooner one", x.mark(4, 4), 0);
        CHECK.due("13 THINGS behind an ANVIL", x.mark(5, 5), 4);
        x.exchange(0, 4);
        CHECK.due("13 EXCHANGED, the other one is later", x.mark(4, 4), 1);
        CHECK.due("13 and this one sooner", x.mark(0, 4), 0);
        x.exchange(5, 2);
        CHECK.due("13 none behind it", x.mark(5, 5), 0);
        CHECK.due("13 a FEATHER that is DUE in 2", x.mark(2, 2), 1);
    }

    private static void markRefused() {
        ThingsThrown x = Check.with("b0c1f2l4t5a7");
        int[] kindsOf = {0, 1 << 1, 1 << 2, 1 << 3, 1 << 1 | 1 << 4, 1 << 3 | 1 << 5};
        for (int i = 0; i < 6; i++) {
            CHECK.due("13 KIND 0 of " + i, x.mark(i, 0), BAD);
            for (int kind = 1; kind <= 5; kind++) {
                if ((kindsOf[i] >> kind & 1) == 0) {
                    CHECK.found("13 mark(" + i + ", " + kind + ")", x, x.mark(i, kind), UNLIKE);
                } else {
                    CHECK.holds("13 mark(" + i + ", " + kind + ")", x.mark(i, kind) >= 0);
                }
            }
        }
        CHECK.due("13 mark(0, 6)", x.mark(0, 6), BAD);
        CHECK.due("13 mark(0, -1)", x.mark(0, -1), BAD);
        CHECK.due("13 mark(6, 1)", x.mark(6, 1), BAD);
        CHECK.due("13 mark(-1, 1)", x.mark(-1, 1), BAD);
    }
}
