import java.math.BigInteger;
import java.util.ArrayList;
import java.util.Arrays;
import java.util.List;
import java.util.TreeSet;
import java.util.regex.Matcher;
import java.util.regex.Pattern;

/**
 * The document a second time, told as plainly as can be and by other means than the class: THINGS by the BEAT in
 * which they come down, whole states kept for each DEED, rows of throws all written out and tried.
 */
final class Model {
    static final int BAD = -1, FULL = -2, FINDING = -3, STATE = -4, NONE = -9;
    private static final String LETTERS = "bcflta";

    /** How all is at one time; never changed. */
    private static final class Air {
        final int beat;
        final int[] comesDown;
        final int[] times;

        Air(int beat, int[] comesDown, int[] times) {
            this.beat = beat;
            this.comesDown = comesDown;
            this.times = times;
        }
    }

    private final int[][] rows = new int[6][];
    private final byte[][] texts = new byte[4][];
    private String kinds = "";
    /** The last one is now, the others are those ahead of each DEED. */
    private List<Air> airs = new ArrayList<>(List.of(new Air(0, new int[0], new int[0])));
    private final List<List<Air>> kept = new ArrayList<>(Arrays.asList(null, null, null));
    private int asked = 0;
    private long upper = 0;
    private long lower = 1;
    private int finding = 0;
    private final int[] findings = new int[6];

    private int found(int f) {
        finding = f;
        findings[f]++;
        return FINDING;
    }

    private int tell(int v) {
        asked = v;
        return 1;
    }

    int row(int r, int n) {
        if (r < 0 || r > 5 || n > 40) return BAD;
        if (n < 0) return found(5);
        rows[r] = new int[n];
        return n;
    }

    int lay(int r, int i, int v) {
        if (r < 0 || r > 5) return BAD;
        if (rows[r] == null) return found(1);
        if (i < 0 || i >= rows[r].length) return found(2);
        tell(rows[r][i]);
        rows[r][i] = v;
        return 1;
    }

    int at(int r, int i) {
        if (r < 0 || r > 5) return BAD;
        if (rows[r] == null) return found(1);
        if (i < 0 || i >= rows[r].length) return found(2);
        return tell(rows[r][i]);
    }

    int tear(int r) {
        if (r < 0 || r > 5) return BAD;
        if (rows[r] == null) return found(1);
        rows[r] = null;
        return 1;
    }

    int copy(int r, int i, int to, int j, int n) {
        if (r < 0 || r > 5 || to < 0 || to > 5) return BAD;
        if (n < 0) return found(5);
        if (rows[r] == null || rows[to] == null) return found(1);
        if (i < 0 || j < 0 || (long) i + n > rows[r].length || (long) j + n > rows[to].length) return found(2);
        int[] taken = Arrays.copyOfRange(rows[r], i, i + n);
        for (int k = 0; k < n; k++) rows[to][j + k] = taken[k];
        return 1;
    }

    int mean(int r) {
        if (r < 0 || r > 5) return BAD;
        if (rows[r] == null) return found(1);
        if (rows[r].length == 0) return found(4);
        BigInteger sum = BigInteger.ZERO;
        for (int v : rows[r]) sum = sum.add(BigInteger.valueOf(v));
        return tell(sum.divide(BigInteger.valueOf(rows[r].length)).intValueExact());
    }

    int text(int t, int n) {
        if (t < 0 || t > 3 || n > 60) return BAD;
        if (n < 0) return found(5);
        texts[t] = new byte[n];
        Arrays.fill(texts[t], (byte) ' ');
        return n;
    }

    int put(int t, int i, int v) {
        if (t < 0 || t > 3) return BAD;
        if (texts[t] == null) return found(1);
        if (i < 0 || i >= texts[t].length) return found(2);
        int was = texts[t][i];
        texts[t][i] = (byte) v;
        return 1000 + was;
    }

    private static String written(byte[] text) {
        StringBuilder s = new StringBuilder();
        for (byte b : text) s.append((char) (b & 255));
        return s.toString();
    }

    /** The longest beginning of a text from which it could still be ended well. */
    private static int faultOf(String text) {
        for (int n = 1; n <= text.length(); n++) {
            if (!canGoOn(text.substring(0, n))) return n - 1;
        }
        return Pattern.matches(" *([bcflta][0-9] *)+", text) ? NONE : text.length();
    }

    private static boolean canGoOn(String begun) {
        if (!Pattern.matches(" *([bcflta][0-9] *){0,6}", begun)
                && !Pattern.matches(" *([bcflta][0-9] *){0,5}[bcflta]", begun)) {
            return false;
        }
        String figures = begun.replaceAll("[^0-9]", "");
        return figures.chars().distinct().count() == figures.length();
    }

    int fault(int t) {
        if (t < 0 || t > 3) return BAD;
        if (texts[t] == null) return found(1);
        return faultOf(written(texts[t]));
    }

    int things(int t) {
        int fault = fault(t);
        if (fault == BAD || fault == FINDING) return fault;
        if (fault != NONE) return STATE;
        Matcher m = Pattern.compile("([a-z])([0-9])").matcher(written(texts[t]));
        StringBuilder told = new StringBuilder();
        List<Integer> dues = new ArrayList<>();
        while (m.find()) {
            told.append(m.group(1));
            dues.add(Integer.parseInt(m.group(2)));
        }
        kinds = told.toString();
        int[] comesDown = dues.stream().mapToInt(Integer::intValue).toArray();
        airs = new ArrayList<>(List.of(new Air(0, comesDown, new int[comesDown.length])));
        for (int k = 0; k < 3; k++) kept.set(k, null);
        return kinds.length();
    }

    private Air now() {
        return airs.get(airs.size() - 1);
    }

    private boolean isThing(int i) {
        return i >= 0 && i < kinds.length();
    }

    private static int flight(char letter, int h) {
        switch (letter) {
            case 'b': return h;
            case 'c': return h % 2 == 1 ? h + 1 : h;
            case 'f': return h * 2;
            case 'l': return h == 1 ? 1 : h - 1;
            case 't': return h < 3 ? NONE : flight('c', h);
            default: return h > 4 ? NONE : flight('l', h);
        }
    }

    private static int heightsOf(char letter) {
        int heights = 0;
        for (int h = 1; h <= 7; h++) if (flight(letter, h) != NONE) heights += 1 << h;
        return heights;
    }

    private int ofThing(int i, int what) {
        switch (what) {
            case 0: return LETTERS.indexOf(kinds.charAt(i));
            case 1: return now().comesDown[i] - now().beat;
            case 2: return heightsOf(kinds.charAt(i));
            default: return now().times[i];
        }
    }

    int thing(int i, int what) {
        if (!isThing(i) || what < 0 || what > 3) return BAD;
        return tell(ofThing(i, what));
    }

    int mark(int i, int kind) {
        if (!isThing(i) || kind < 1 || kind > 5) return BAD;
        char own = kinds.charAt(i);
        String whichAre = new String[] {"", "ct", "f", "la", "t", "a"}[kind];
        if (whichAre.indexOf(own) < 0) return found(3);
        if (kind == 2) return ofThing(i, 1) / 2;
        int n = 0;
        if (kind == 1 || kind == 3) {
            for (int h = 1; h <= 7; h++) {
                int beats = flight(own, h);
                if (beats != NONE && (kind == 1 ? beats > h : beats < h)) n++;
            }
            return n;
        }
        for (int j = 0; j < kinds.length(); j++) {
            if (kind == 4 && kinds.charAt(j) == 't' && ofThing(j, 1) < ofThing(i, 1)) n++;
            if (kind == 5 && ofThing(j, 1) > ofThing(i, 1)) n++;
        }
        return n;
    }

    private static int sky(Air air) {
        int sky = 0;
        for (int b : air.comesDown) sky += 1 << (b - air.beat);
        return sky;
    }

    private static int dueNow(Air air) {
        for (int i = 0; i < air.comesDown.length; i++) if (air.comesDown[i] == air.beat) return i;
        return NONE;
    }

    private static int together(Air air) {
        return Arrays.stream(air.comesDown).map(b -> b - air.beat).sum();
    }

    private static Air rested(Air air) {
        return new Air(air.beat + 1, air.comesDown, air.times);
    }

    private static Air restedTillDue(Air air) {
        Air then = air;
        while (dueNow(then) == NONE) then = rested(then);
        return then;
    }

    /** Behind a THROW, or null if it MAY not be. */
    private Air thrown(Air air, int h) {
        int i = dueNow(air);
        if (i == NONE) return null;
        int beats = flight(kinds.charAt(i), h);
        if (beats == NONE) return null;
        for (int b : air.comesDown) if (b == air.beat + beats) return null;
        int[] comesDown = air.comesDown.clone();
        comesDown[i] = air.beat + beats;
        int[] times = air.times.clone();
        times[i]++;
        return new Air(air.beat + 1, comesDown, times);
    }

    private static Air exchanged(Air air, int i, int j) {
        int[] comesDown = air.comesDown.clone();
        comesDown[i] = air.comesDown[j];
        comesDown[j] = air.comesDown[i];
        return new Air(air.beat, comesDown, air.times);
    }

    private int deeds() {
        return airs.size() - 1;
    }

    int toss(int h) {
        if (h < 1 || h > 7) return BAD;
        Air then = thrown(now(), h);
        if (then == null) return STATE;
        if (deeds() == 40) return FULL;
        airs.add(then);
        return sky(then);
    }

    int rest() {
        if (kinds.isEmpty() || dueNow(now()) != NONE) return STATE;
        if (deeds() == 40) return FULL;
        airs.add(rested(now()));
        return sky(now());
    }

    int exchange(int i, int j) {
        if (!isThing(i) || !isThing(j) || i == j) return BAD;
        if (deeds() == 40) return FULL;
        airs.add(exchanged(now(), i, j));
        return sky(now());
    }

    int undo(int n) {
        if (n < 0 || n > deeds()) return BAD;
        int undone = deeds() - n;
        airs = new ArrayList<>(airs.subList(0, n + 1));
        return undone;
    }

    int keep(int k) {
        if (k < 0 || k > 2) return BAD;
        if (kinds.isEmpty()) return STATE;
        kept.set(k, new ArrayList<>(airs));
        return deeds();
    }

    int on(int k) {
        if (k < 0 || k > 2) return BAD;
        if (kept.get(k) == null) return found(1);
        airs = new ArrayList<>(kept.get(k));
        return deeds();
    }

    int lands(int i, int h) {
        if (!isThing(i) || h < 1 || h > 7) return BAD;
        return flight(kinds.charAt(i), h);
    }

    int may() {
        if (kinds.isEmpty()) return STATE;
        if (dueNow(now()) == NONE) return NONE;
        tell(dueNow(now()));
        int heights = 0;
        for (int h = 1; h <= 7; h++) if (thrown(now(), h) != null) heights += 1 << h;
        return heights;
    }

    private int refusal(int r, int least, int most) {
        if (kinds.isEmpty()) return STATE;
        if (r < 0 || r > 5) return BAD;
        if (rows[r] == null) return found(1);
        if (rows[r].length < least || rows[r].length > most) return found(5);
        for (int h : rows[r]) if (h < 1 || h > 7) return found(3);
        return 0;
    }

    /** All that comes of a row of throws; the last one is where it ends, made of them were made. */
    private int made = 0;

    private Air afterRow(Air air, int... heights) {
        Air then = air;
        made = 0;
        for (int h : heights) {
            then = restedTillDue(then);
            Air behind = thrown(then, h);
            if (behind == null) return then;
            then = behind;
            made++;
        }
        return then;
    }

    int run(int r) {
        int refusal = refusal(r, 0, 20);
        if (refusal != 0) return refusal;
        tell(sky(afterRow(now(), rows[r])));
        return made;
    }

    private static boolean isDueAlike(Air a, Air b) {
        for (int i = 0; i < a.comesDown.length; i++) {
            if (a.comesDown[i] - a.beat != b.comesDown[i] - b.beat) return false;
        }
        return true;
    }

    int rounds(int r) {
        int refusal = refusal(r, 1, 20);
        if (refusal != 0) return refusal;
        Air then = now();
        for (int round = 1; round <= 100; round++) {
            then = afterRow(then, rows[r]);
            if (made < rows[r].length) return NONE;
            Air behind = then;
            while (true) {
                if (isDueAlike(behind, now())) return round;
                if (dueNow(behind) != NONE) break;
                behind = rested(behind);
            }
        }
        return NONE;
    }

    private static List<int[]> allRows(int n) {
        List<int[]> all = new ArrayList<>();
        int many = (int) Math.pow(7, n);
        for (int k = 0; k < many; k++) {
            int[] row = new int[n];
            int left = k;
            for (int i = n - 1; i >= 0; i--) {
                row[i] = left % 7 + 1;
                left /= 7;
            }
            all.add(row);
        }
        return all;
    }

    int fewest(int told, int r) {
        if (kinds.isEmpty()) return STATE;
        if (told < 0 || told > 65535 || r < 0 || r > 5) return BAD;
        for (int n = 0; n <= 4; n++) {
            for (int[] row : allRows(n)) {
                Air then = afterRow(now(), row);
                if (made == n && comesTo(then, told)) {
                    rows[r] = row;
                    return n;
                }
            }
        }
        return NONE;
    }

    private static boolean comesTo(Air air, int told) {
        Air then = air;
        while (dueNow(then) == NONE && sky(then) != told) then = rested(then);
        return sky(then) == told;
    }

    int ways(int n) {
        if (kinds.isEmpty()) return STATE;
        if (n < 1 || n > 4) return BAD;
        TreeSet<Integer> firsts = new TreeSet<>();
        upper = 0;
        lower = 1;
        for (int[] row : allRows(n)) {
            Air then = afterRow(now(), row);
            if (made == n && sky(then) == sky(now())) {
                upper++;
                firsts.add(row[0]);
            }
        }
        return tell(firsts.stream().mapToInt(h -> 1 << h).sum());
    }

    int height(int told) {
        if (kinds.isEmpty()) return STATE;
        if (told < 0 || told > 65535) return BAD;
        if (dueNow(now()) == NONE) return NONE;
        int heights = 0;
        for (int h = 1; h <= 7; h++) {
            Air then = thrown(now(), h);
            if (then != null && sky(then) == told) heights += 1 << h;
        }
        return heights;
    }

    private int pairsRefusal(int i, int r) {
        if (!isThing(i) || r < 0 || r > 5) return BAD;
        if (rows[r] == null) return found(1);
        if (rows[r].length > 16 || rows[r].length % 2 == 1) return found(5);
        for (int k = 0; k < rows[r].length; k++) {
            if (rows[r][k] < 1 || rows[r][k] > (k % 2 == 0 ? 7 : 15)) return found(3);
        }
        return 0;
    }

    private String fitting(int r) {
        StringBuilder fitting = new StringBuilder();
        for (char letter : LETTERS.toCharArray()) {
            boolean fits = true;
            for (int k = 0; k < rows[r].length; k += 2) fits &= flight(letter, rows[r][k]) == rows[r][k + 1];
            if (fits) fitting.append(letter);
        }
        return fitting.toString();
    }

    int kinds(int i, int r) {
        int refusal = pairsRefusal(i, r);
        if (refusal != 0) return refusal;
        return fitting(r).chars().map(letter -> 1 << LETTERS.indexOf(letter)).sum();
    }

    int next(int i, int r) {
        int refusal = pairsRefusal(i, r);
        if (refusal != 0) return refusal;
        String fitting = fitting(r);
        if (fitting.isEmpty()) return NONE;
        int best = 0;
        int least = 7;
        for (int h = 1; h <= 7; h++) {
            int[] parts = new int[20];
            for (char letter : fitting.toCharArray()) parts[Math.max(0, flight(letter, h))]++;
            int greatest = Arrays.stream(parts).max().getAsInt();
            if (greatest < least) {
                least = greatest;
                best = h;
            }
        }
        tell(least);
        return best;
    }

    int duel(int n) {
        if (kinds.isEmpty()) return STATE;
        if (n < 0 || n > 2) return BAD;
        return tell(value(now(), 0, 2 * n));
    }

    private int value(Air air, int turn, int turns) {
        if (turn == turns) return together(air);
        Air then = restedTillDue(air);
        List<Integer> values = new ArrayList<>();
        for (int h = 1; h <= 7; h++) {
            Air behind = thrown(then, h);
            if (behind != null) values.add(value(behind, turn + 1, turns));
        }
        values.sort(null);
        if (turn % 2 == 0) return values.isEmpty() ? together(then) - 100 : values.get(values.size() - 1);
        return values.isEmpty() ? together(then) + 100 : values.get(0);
    }

    private void tellRatio(BigInteger up, BigInteger low) {
        BigInteger shared = up.gcd(low);
        upper = up.divide(shared).longValueExact();
        lower = low.divide(shared).longValueExact();
    }

    /** Each of the 2 to the n ways in which n throws go as told or higher, by its own weight. */
    private int byChance(int r, int p, boolean mean) {
        if (kinds.isEmpty()) return STATE;
        if (p < 0 || p > 12) return BAD;
        int refusal = refusal(r, 1, 6);
        if (refusal != 0) return refusal;
        int n = rows[r].length;
        BigInteger sum = BigInteger.ZERO;
        for (int set = 0; set < 1 << n; set++) {
            int[] heights = rows[r].clone();
            BigInteger weight = BigInteger.ONE;
            for (int k = 0; k < n; k++) {
                boolean higher = (set >> k & 1) == 1;
                if (higher) heights[k] = Math.min(7, heights[k] + 1);
                weight = weight.multiply(BigInteger.valueOf(higher ? p : 12 - p));
            }
            afterRow(now(), heights);
            int counts = mean ? made : made == n ? 1 : 0;
            sum = sum.add(weight.multiply(BigInteger.valueOf(counts)));
        }
        tellRatio(sum, BigInteger.valueOf(12).pow(n));
        return 1;
    }

    int odds(int r, int p) {
        return byChance(r, p, false);
    }

    int mid(int r, int p) {
        return byChance(r, p, true);
    }

    int lots(int n, int seed) {
        if (kinds.isEmpty()) return STATE;
        if (n < 1 || n > 20 || seed < 1 || seed == Integer.MAX_VALUE) return BAD;
        if (deeds() + n > 40) return FULL;
        BigInteger lot = BigInteger.valueOf(seed);
        for (int k = 0; k < n; k++) {
            lot = lot.multiply(BigInteger.valueOf(48271)).mod(BigInteger.valueOf(2147483647));
            airs.add(byLot(now(), lot.intValueExact()));
        }
        return sky(now());
    }

    private Air byLot(Air air, int lot) {
        int i = dueNow(air);
        if (i == NONE) return rested(air);
        if (lot / 8 % 8 == 7) return exchanged(air, i, lot % kinds.length());
        int h = lot % 7 + 1;
        for (int k = 0; k < 7; k++) {
            Air then = thrown(air, h);
            if (then != null) return then;
            h = h == 7 ? 1 : h + 1;
        }
        return air;
    }

    int asked() {
        return asked;
    }

    long upper() {
        return upper;
    }

    long lower() {
        return lower;
    }

    private int letters(String which) {
        return (int) kinds.chars().filter(letter -> which.indexOf(letter) >= 0).count();
    }

    private static int there(Object[] places) {
        int n = 0;
        for (Object place : places) if (place != null) n++;
        return n;
    }

    int count(int what) {
        switch (what) {
            case 0: return kinds.length();
            case 1: return now().beat;
            case 2: return deeds();
            case 3: return sky(now());
            case 4: return dueNow(now());
            case 5: return together(now());
            case 6: return Arrays.stream(now().times).sum();
            case 7: return letters("ct");
            case 8: return letters("la");
            case 9: return there(rows);
            case 10: return there(texts);
            case 11: return there(kept.toArray());
            default: return BAD;
        }
    }

    int finding() {
        return finding;
    }

    int findings(int f) {
        return f < 1 || f > 5 ? BAD : findings[f];
    }

    long digest() {
        List<Integer> all = new ArrayList<>();
        for (int what = 0; what < 12; what++) all.add(count(what));
        for (int i = 0; i < kinds.length(); i++) {
            for (int what = 0; what < 4; what++) all.add(ofThing(i, what));
        }
        for (List<Air> k : kept) all.add(k == null ? -1 : k.size() - 1);
        for (int[] row : rows) {
            all.add(row == null ? -1 : row.length);
            if (row != null) for (int v : row) all.add(v);
        }
        for (byte[] text : texts) {
            all.add(text == null ? -1 : text.length);
            if (text != null) for (byte v : text) all.add((int) v);
        }
        long h = 17;
        for (int v : all) h = 31 * h + v;
        return h;
    }
}
