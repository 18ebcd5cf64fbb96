/** Promises 1 to 7: a new object, row, lay, at, tear, copy, mean. */
final class RowsTest {
    private static final int BAD = -1;
    private static final int NOTHING = 1, BEYOND = 2, NOUGHT = 4, SIZE = 5;
    private static final Check CHECK = new Check("RowsTest");

    public static void main(String[] args) {
        aNewObject();
        row();
        layAndAt();
        tear();
        copy();
        copyRefused();
        mean();
        CHECK.end();
    }

    private static void aNewObject() {
        ThingsThrown x = new ThingsThrown();
        for (int what = 0; what <= 11; what++) {
            CHECK.due("1 new: count(" + what + ")", x.count(what), what == 4 ? -9 : 0);
        }
        CHECK.due("1 new: asked()", x.asked(), 0);
        CHECK.due("1 new: upper()", x.upper(), 0);
        CHECK.due("1 new: lower()", x.lower(), 1);
        CHECK.due("1 new: finding()", x.finding(), 0);
        for (int r = 0; r <= 5; r++) CHECK.found("1 new: at(" + r + ", 0)", x, x.at(r, 0), NOTHING);
        for (int t = 0; t <= 3; t++) CHECK.found("1 new: fault(" + t + ")", x, x.fault(t), NOTHING);
        for (int k = 0; k <= 2; k++) CHECK.found("1 new: on(" + k + ")", x, x.on(k), NOTHING);
        CHECK.due("1 new: thing(0, 0)", x.thing(0, 0), BAD);
    }

    private static void row() {
        ThingsThrown x = new ThingsThrown();
        CHECK.due("2 row(5, 40)", x.row(5, 40), 40);
        CHECK.told("2 at(5, 39)", x, x.at(5, 39), 0);
        CHECK.due("2 row(0, 0)", x.row(0, 0), 0);
        CHECK.due("2 count(9)", x.count(9), 2);
        x.lay(5, 1, 8);
        CHECK.due("2 row(5, 2)", x.row(5, 2), 2);
        CHECK.holds("2 a row anew has 0 in each place", Check.isRow(x, 5, 0, 0));
        CHECK.due("2 row(-1, 1)", x.row(-1, 1), BAD);
        CHECK.due("2 row(6, 1)", x.row(6, 1), BAD);
        CHECK.due("2 row(5, 41)", x.row(5, 41), BAD);
        CHECK.due("2 row(5, max)", x.row(5, Integer.MAX_VALUE), BAD);
        CHECK.due("2 row(6, -1): BAD comes first", x.row(6, -1), BAD);
        CHECK.found("2 row(5, -1)", x, x.row(5, -1), SIZE);
        CHECK.found("2 row(5, min)", x, x.row(5, Integer.MIN_VALUE), SIZE);
        CHECK.holds("2 what is refused changes nothing", Check.isRow(x, 5, 0, 0));
    }

    private static void layAndAt() {
        ThingsThrown x = new ThingsThrown();
        x.row(2, 3);
        CHECK.told("3 lay(2, 1, 77)", x, x.lay(2, 1, 77), 0);
        CHECK.told("3 lay(2, 1, min)", x, x.lay(2, 1, Integer.MIN_VALUE), 77);
        CHECK.told("4 at(2, 1)", x, x.at(2, 1), Integer.MIN_VALUE);
        CHECK.told("3 lay(2, 2, -5)", x, x.lay(2, 2, -5), 0);
        CHECK.told("4 at(2, 0)", x, x.at(2, 0), 0);
        CHECK.told("4 at(2, 2)", x, x.at(2, 2), -5);
        CHECK.due("3 lay(6, 0, 1)", x.lay(6, 0, 1), BAD);
        CHECK.due("3 lay(-1, 0, 1)", x.lay(-1, 0, 1), BAD);
        CHECK.found("3 lay(3, 0, 1)", x, x.lay(3, 0, 1), NOTHING);
        CHECK.found("3 lay(2, 3, 1)", x, x.lay(2, 3, 1), BEYOND);
        CHECK.found("3 lay(2, -1, 1)", x, x.lay(2, -1, 1), BEYOND);
        CHECK.due("4 at(6, 0)", x.at(6, 0), BAD);
        CHECK.due("4 at(-1, 0)", x.at(-1, 0), BAD);
        CHECK.found("4 at(3, 9)", x, x.at(3, 9), NOTHING);
        CHECK.found("4 at(2, 3)", x, x.at(2, 3), BEYOND);
        CHECK.found("4 at(2, -1)", x, x.at(2, -1), BEYOND);
        CHECK.due("33 asked() as before what was refused", x.asked(), -5);
    }

    private static void tear() {
        ThingsThrown x = new ThingsThrown();
        Check.fill(x, 4, 1, 2);
        CHECK.due("5 tear(4)", x.tear(4), 1);
        CHECK.due("5 count(9)", x.count(9), 0);
        CHECK.found("5 at(4, 0)", x, x.at(4, 0), NOTHING);
        CHECK.found("5 tear(4) again", x, x.tear(4), NOTHING);
        CHECK.due("5 tear(6)", x.tear(6), BAD);
        CHECK.due("5 tear(-1)", x.tear(-1), BAD);
        x.row(4, 2);
        CHECK.holds("5 a row made behind it is empty", Check.isRow(x, 4, 0, 0));
    }

    private static void copy() {
        ThingsThrown x = new ThingsThrown();
        Check.fill(x, 0, 1, 2, 3, 4, 5);
        Check.fill(x, 1, 9, 9, 9);
        CHECK.due("6 copy to another one", x.copy(0, 3, 1, 1, 2), 1);
        CHECK.holds("6 it has come", Check.isRow(x, 1, 9, 4, 5));
        CHECK.holds("6 it is there still", Check.isRow(x, 0, 1, 2, 3, 4, 5));
        CHECK.due("6 copy behind itself", x.copy(0, 0, 0, 1, 4), 1);
        CHECK.holds("6 as if taken ahead", Check.isRow(x, 0, 1, 1, 2, 3, 4));
        CHECK.due("6 copy ahead of itself", x.copy(0, 2, 0, 0, 3), 1);
        CHECK.holds("6 as if taken ahead", Check.isRow(x, 0, 2, 3, 4, 3, 4));
        CHECK.due("6 copy none at the end", x.copy(0, 5, 1, 3, 0), 1);
        CHECK.due("6 copy the whole of it", x.copy(1, 0, 0, 0, 3), 1);
        CHECK.holds("6 the whole of it", Check.isRow(x, 0, 9, 4, 5, 3, 4));
    }

    private static void copyRefused() {
        ThingsThrown x = new ThingsThrown();
        Check.fill(x, 0, 1, 2, 3);
        Check.fill(x, 1, 4, 5);
        CHECK.due("6 copy from 6", x.copy(6, 0, 0, 0, 1), BAD);
        CHECK.due("6 copy to -1", x.copy(0, 0, -1, 0, 1), BAD);
        CHECK.due("6 BAD ahead of SIZE", x.copy(0, 0, 6, 0, -1), BAD);
        CHECK.found("6 SIZE ahead of NOTHING", x, x.copy(0, 0, 2, 0, -1), SIZE);
        CHECK.found("6 NOTHING to come to", x, x.copy(0, 9, 2, 0, 1), NOTHING);
        CHECK.found("6 NOTHING to take from", x, x.copy(2, 0, 0, 9, 1), NOTHING);
        CHECK.found("6 BEYOND what is taken from", x, x.copy(1, 1, 0, 0, 2), BEYOND);
        CHECK.found("6 BEYOND what it comes to", x, x.copy(0, 0, 1, 0, 3), BEYOND);
        CHECK.found("6 BEYOND: from -1", x, x.copy(0, -1, 1, 0, 1), BEYOND);
        CHECK.found("6 BEYOND: to -1", x, x.copy(0, 0, 1, -1, 0), BEYOND);
        CHECK.found("6 BEYOND: none from behind the end", x, x.copy(0, 4, 1, 0, 0), BEYOND);
        CHECK.found("6 BEYOND: far", x, x.copy(0, Integer.MAX_VALUE, 1, 0, Integer.MAX_VALUE), BEYOND);
        CHECK.found("6 BEYOND: many", x, x.copy(0, 1, 1, 1, Integer.MAX_VALUE), BEYOND);
        CHECK.holds("6 nothing has changed", Check.isRow(x, 0, 1, 2, 3) && Check.isRow(x, 1, 4, 5));
    }

    private static void mean() {
        ThingsThrown x = new ThingsThrown();
        Check.fill(x, 3, 1, 2, 5);
        CHECK.told("7 mean of 1 2 5", x, x.mean(3), 2);
        Check.fill(x, 3, -1, -2, -5);
        CHECK.told("7 mean of -1 -2 -5, cut", x, x.mean(3), -2);
        Check.fill(x, 3, Integer.MAX_VALUE, Integer.MAX_VALUE);
        CHECK.told("7 mean of the greatest", x, x.mean(3), Integer.MAX_VALUE);
        Check.fill(x, 3, Integer.MIN_VALUE, Integer.MIN_VALUE, Integer.MIN_VALUE);
        CHECK.told("7 mean of the least", x, x.mean(3), Integer.MIN_VALUE);
        x.row(3, 0);
        CHECK.found("7 mean of none", x, x.mean(3), NOUGHT);
        CHECK.found("7 mean of a missing one", x, x.mean(2), NOTHING);
        CHECK.due("7 mean(6)", x.mean(6), BAD);
        CHECK.due("7 mean(-1)", x.mean(-1), BAD);
        CHECK.due("33 asked() as before", x.asked(), Integer.MIN_VALUE);
    }
}
