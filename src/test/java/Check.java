/** Counts answers that are due, and makes objects and rows for the tests. */
final class Check {
    private final String name;
    private int passed = 0;
    private int failed = 0;

    Check(String name) {
        this.name = name;
    }

    void due(String call, long got, long want) {
        if (got == want) {
            passed++;
        } else {
            failed++;
            System.out.println(name + ": " + call + " answered " + got + ", due is " + want);
        }
    }

    void holds(String what, boolean so) {
        due(what, so ? 1 : 0, 1);
    }

    /** A call that is refused by a FINDING, and which one. */
    void found(String call, ThingsThrown x, int got, int finding) {
        due(call, got, ThingsThrown.FINDING);
        due(call + ", finding()", x.finding(), finding);
    }

    /** A call that tells by asked(). */
    void told(String call, ThingsThrown x, int got, int asked) {
        due(call, got, 1);
        due(call + ", asked()", x.asked(), asked);
    }

    /** A call that tells by upper(), lower(). */
    void ratio(String call, ThingsThrown x, int got, long upper, long lower) {
        due(call, got, 1);
        due(call + ", upper()", x.upper(), upper);
        due(call + ", lower()", x.lower(), lower);
    }

    boolean isGood() {
        return failed == 0;
    }

    void end() {
        System.out.println(name + ": " + passed + " passed, " + failed + " failed");
        if (failed != 0 || passed == 0) {
            System.exit(1);
        }
    }

    static void write(ThingsThrown x, int t, String text) {
        x.text(t, text.length());
        for (int i = 0; i < text.length(); i++) {
            x.put(t, i, text.charAt(i));
        }
    }

    static void fill(ThingsThrown x, int r, int... values) {
        x.row(r, values.length);
        for (int i = 0; i < values.length; i++) {
            x.lay(r, i, values[i]);
        }
    }

    /** An object with THINGS as told. */
    static ThingsThrown with(String things) {
        ThingsThrown x = new ThingsThrown();
        write(x, 0, things);
        x.things(0);
        return x;
    }

    /** 1 if the ROW is just these ints. */
    static boolean isRow(ThingsThrown x, int r, int... values) {
        for (int i = 0; i < values.length; i++) {
            if (x.at(r, i) != 1 || x.asked() != values[i]) {
                return false;
            }
        }
        return x.at(r, values.length) == ThingsThrown.FINDING && x.finding() == 2;
    }
}
