import java.util.ArrayList;
import java.util.List;
import java.util.function.Consumer;
import java.util.function.ToLongFunction;

/**
 * Holds the class to one sentence of the document at a time. A scene is made twice, by the same calls; one of the two
 * objects gets the call of the sentence, and what that has changed is seen beside the other one.
 *
 * Each scene ends with ROW 5 of 777 alone, told by asked(), so that a call that tells nothing is known by it. Where
 * there are THINGS, upper() is 3 and lower() 4 to begin with, and each FINDING has been answered.
 */
final class Edges {
    private static final int FINDING = -3, NONE = -9;
    private final Check check;

    Edges(String name) {
        check = new Check(name);
    }

    void end() {
        check.end();
    }

    void due(String sentence, long got, long want) {
        check.due(sentence, got, want);
    }

    void holds(String sentence, boolean so) {
        check.holds(sentence, so);
    }

    // ---- scenes

    /** No THINGS, and yet not as new: there are ROWS, TEXTS, FINDINGS. */
    static Consumer<ThingsThrown> noThings() {
        return Edges::meetFindings;
    }

    /** THINGS as TEXT 0 tells them. TEXTS 1 and 2 and ROWS 0 to 4 are missing. */
    static Consumer<ThingsThrown> things(String told) {
        return x -> {
            Check.write(x, 3, "b0b1b2");
            x.things(3);
            Check.fill(x, 5, 2);
            x.odds(5, 9);
            x.mark(0, 1);
            meetFindings(x);
            Check.write(x, 0, told);
            x.things(0);
        };
    }

    static Consumer<ThingsThrown> row(int r, int... values) {
        return x -> Check.fill(x, r, values);
    }

    static Consumer<ThingsThrown> text(int t, String written) {
        return x -> Check.write(x, t, written);
    }

    /** The same call many times. */
    static Consumer<ThingsThrown> times(int n, ToLongFunction<ThingsThrown> call) {
        return x -> {
            for (int k = 0; k < n; k++) call.applyAsLong(x);
        };
    }

    private static void meetFindings(ThingsThrown x) {
        x.row(5, 0);
        x.at(5, 0);
        x.mean(5);
        x.row(5, -1);
        x.tear(5);
        x.tear(5);
    }

    private static ThingsThrown made(Consumer<ThingsThrown> scene) {
        ThingsThrown x = new ThingsThrown();
        scene.accept(x);
        x.row(5, 1);
        x.lay(5, 0, 777);
        x.at(5, 0);
        return x;
    }

    // ---- what a call answers, and what it changes

    /** The answer alone; the object behind it, for what else the sentence says. */
    ThingsThrown taken(String sentence, Consumer<ThingsThrown> scene, ToLongFunction<ThingsThrown> call, long answer) {
        ThingsThrown x = made(scene);
        check.due(sentence, call.applyAsLong(x), answer);
        return x;
    }

    /** BAD, FULL or STATE: nothing is changed, and no FINDING is made. */
    void refused(String sentence, Consumer<ThingsThrown> scene, ToLongFunction<ThingsThrown> call, int answer) {
        ThingsThrown x = made(scene);
        ThingsThrown twin = made(scene);
        check.due(sentence, call.applyAsLong(x), answer);
        sameFindings(sentence, x, twin, 0);
        sameTold(sentence, x, twin);
        sameState(sentence, x, twin);
    }

    /** FINDING: nothing is changed but finding(), findings(). */
    void found(String sentence, Consumer<ThingsThrown> scene, ToLongFunction<ThingsThrown> call, int finding) {
        ThingsThrown x = made(scene);
        ThingsThrown twin = made(scene);
        check.due(sentence, call.applyAsLong(x), FINDING);
        check.due(sentence + ": finding()", x.finding(), finding);
        sameFindings(sentence, x, twin, finding);
        sameTold(sentence, x, twin);
        sameState(sentence, x, twin);
    }

    /** NONE: nothing is told by it, and nothing is changed. */
    void none(String sentence, Consumer<ThingsThrown> scene, ToLongFunction<ThingsThrown> call) {
        refused(sentence, scene, call, NONE);
    }

    /** An answer that is told by nothing else, and changes nothing. */
    void answers(String sentence, Consumer<ThingsThrown> scene, ToLongFunction<ThingsThrown> call, int answer) {
        refused(sentence, scene, call, answer);
    }

    /** An answer and what asked() tells; nothing else is changed. */
    void asked(String sentence, Consumer<ThingsThrown> scene, ToLongFunction<ThingsThrown> call, int answer,
            int asked) {
        ThingsThrown x = made(scene);
        ThingsThrown twin = made(scene);
        check.due(sentence, call.applyAsLong(x), answer);
        check.due(sentence + ": asked()", x.asked(), asked);
        sameFindings(sentence, x, twin, 0);
        sameRatio(sentence, x, twin);
        sameState(sentence, x, twin);
    }

    /** 1, and what upper(), lower() tell; nothing else is changed. */
    void ratio(String sentence, Consumer<ThingsThrown> scene, ToLongFunction<ThingsThrown> call, long upper,
            long lower) {
        ThingsThrown x = made(scene);
        ThingsThrown twin = made(scene);
        check.ratio(sentence, x, (int) call.applyAsLong(x), upper, lower);
        check.due(sentence + ": asked() is as it was", x.asked(), twin.asked());
        sameFindings(sentence, x, twin, 0);
        sameState(sentence, x, twin);
    }

    /** 1, and what asked(), upper(), lower() tell; nothing else is changed. */
    void both(String sentence, Consumer<ThingsThrown> scene, ToLongFunction<ThingsThrown> call, int asked,
            long upper) {
        ThingsThrown x = made(scene);
        ThingsThrown twin = made(scene);
        check.ratio(sentence, x, (int) call.applyAsLong(x), upper, 1);
        check.due(sentence + ": asked()", x.asked(), asked);
        sameFindings(sentence, x, twin, 0);
        sameState(sentence, x, twin);
    }

    private void sameFindings(String sentence, ThingsThrown x, ThingsThrown twin, int made) {
        if (made == 0) {
            check.due(sentence + ": finding() is as it was", x.finding(), twin.finding());
        }
        for (int f = 1; f <= 5; f++) {
            check.due(sentence + ": findings(" + f + ")", x.findings(f), twin.findings(f) + (f == made ? 1 : 0));
        }
    }

    private void sameTold(String sentence, ThingsThrown x, ThingsThrown twin) {
        check.due(sentence + ": asked() is as it was", x.asked(), twin.asked());
        sameRatio(sentence, x, twin);
    }

    private void sameRatio(String sentence, ThingsThrown x, ThingsThrown twin) {
        check.due(sentence + ": upper() is as it was", x.upper(), twin.upper());
        check.due(sentence + ": lower() is as it was", x.lower(), twin.lower());
    }

    private void sameState(String sentence, ThingsThrown x, ThingsThrown twin) {
        check.due(sentence + ": digest() is as it was", x.digest(), twin.digest());
        check.holds(sentence + ": DEEDS and kept SKIES are as they were", layers(x).equals(layers(twin)));
    }

    /** How all was ahead of each DEED, of now and of each kept SKY: digest() tells only how many they are. */
    static List<Long> layers(ThingsThrown x) {
        List<Long> layers = new ArrayList<>();
        undoAll(x, layers);
        for (int k = 0; k <= 2; k++) {
            layers.add((long) x.on(k));
            undoAll(x, layers);
        }
        return layers;
    }

    private static void undoAll(ThingsThrown x, List<Long> layers) {
        for (int n = x.count(2); n >= 0; n--) {
            layers.add((long) x.undo(n));
            layers.add(x.digest());
        }
    }
}
