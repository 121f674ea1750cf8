import java.util.ArrayList;
import java.util.List;

/**
 * The document once more, tick by tick and with the machine's own exceptions, for RunsTest to hold the class against.
 * It shares no code and no tables with RowShutter.
 */
final class PlainModel {
    private static final int BAD = -1, STATE = -2, FULL = -3, NONE = -4;
    private static final int[][] LAMP_BOUNDS = {{0, 3}, {1, 9}, {1, 12}, {0, 11}};
    private static final int[][] RULE_BOUNDS = {{1, 8}, {0, 9}, {1, 20}, {1, 60}};
    private static final List<String> NAMES =
            List.of("steady", "blink", "saw", "pair", "rows", "delay", "expose", "pace");

    private static final class World {
        List<int[]> lamps = new ArrayList<>();
        int[] rules = {4, 2, 4, 20};
        int tick;
        int shots;
        int[] latest;
        List<int[]> seen = new ArrayList<>();

        World copy() {
            World w = new World();
            for (int[] lamp : lamps) {
                w.lamps.add(lamp.clone());
            }
            w.rules = rules.clone();
            w.tick = tick;
            w.shots = shots;
            w.latest = latest == null ? null : latest.clone();
            w.seen.addAll(seen);
            return w;
        }

        int give(int[] lamp, int t) {
            int stand = (t + lamp[3]) % lamp[2];
            boolean lit = stand * 2 < lamp[2];
            if (lamp[0] == 0) {
                return lamp[1];
            }
            if (lamp[0] == 1) {
                return lit ? lamp[1] : 0;
            }
            if (lamp[0] == 2) {
                return lamp[1] * stand / lamp[2];
            }
            return lit ? lamp[1] : lamp[1] / 2;
        }

        int shine(int t) {
            int sum = 0;
            for (int[] lamp : lamps) {
                sum += give(lamp, t);
            }
            return sum;
        }

        int[] shot(int n) {
            int[] rows = new int[rules[0]];
            for (int r = 0; r < rows.length; r++) {
                int first = tick + n * rules[3] + r * rules[1];
                for (int t = first; t < first + rules[2]; t++) {
                    rows[r] += shine(t);
                }
                rows[r] = Math.min(rows[r], 255);
            }
            return rows;
        }

        static int bands(int[] rows) {
            int high = rows[0];
            int low = rows[0];
            for (int v : rows) {
                high = Math.max(high, v);
                low = Math.min(low, v);
            }
            return high - low;
        }

        static int sum(int[] rows) {
            int sum = 0;
            for (int v : rows) {
                sum += v;
            }
            return sum;
        }

        int greatest(int n) {
            int greatest = 0;
            for (int i = 0; i < n; i++) {
                greatest = Math.max(greatest, bands(shot(i)));
            }
            return greatest;
        }

        boolean asSeen() {
            for (int[] s : seen) {
                int[] rows = shot(s[0]);
                if (s[1] >= rows.length || rows[s[1]] != s[2]) {
                    return false;
                }
            }
            return true;
        }
    }

    private World w = new World();
    private final World[] images = new World[2];
    private final Object[] sheets = new Object[4];
    private StringBuilder tape = new StringBuilder();
    private int fault;
    private int torn;

    private static boolean in(int v, int least, int most) {
        return least <= v && v <= most;
    }

    private boolean isLamp(int l) {
        return in(l, 0, w.lamps.size() - 1);
    }

    public int feed(int c) {
        if (!in(c, 0, 127)) {
            return BAD;
        }
        if (tape.length() == 160) {
            return FULL;
        }
        tape.append((char) c);
        return tape.length();
    }

    public int end(int n) {
        if (!in(n, 0, tape.length())) {
            return BAD;
        }
        int had = tape.length();
        tape.setLength(n);
        return had;
    }

    private static final class Fault extends RuntimeException {
        private static final long serialVersionUID = 1;
        final int number;
        final int place;

        Fault(int number, int place) {
            this.number = number;
            this.place = place;
        }
    }

    /** The token from a place on, without blanks ahead; "" at the end; its place is told by the Fault or by find(). */
    private static String token(String text, int from) {
        if (from == text.length()) {
            return "";
        }
        java.util.regex.Matcher m = java.util.regex.Pattern.compile("[a-z]+|[0-9]+|;").matcher(text);
        m.region(from, text.length());
        if (!m.lookingAt() || m.group().matches("[0-9]{3,}")) {
            throw new Fault(1, from);
        }
        return m.group();
    }

    private static int blanks(String text, int from) {
        int at = from;
        while (at < text.length() && text.charAt(at) == ' ') {
            at++;
        }
        return at;
    }

    private static int parse(String text, World into) {
        int at = 0;
        int lines = 0;
        List<String> told = new ArrayList<>();
        while (true) {
            at = blanks(text, at);
            String name = token(text, at);
            if (name.isEmpty()) {
                return lines;
            }
            int which = NAMES.indexOf(name);
            if (which < 0) {
                throw new Fault(2, at);
            }
            if (told.contains(name)) {
                throw new Fault(4, at);
            }
            if (which < 4 && into.lamps.size() == 4) {
                throw new Fault(5, at);
            }
            at += name.length();
            int[][] bounds = which < 4
                    ? new int[][] {LAMP_BOUNDS[1], LAMP_BOUNDS[2], LAMP_BOUNDS[3]} : new int[][] {RULE_BOUNDS[which - 4]};
            int[] numbers = new int[bounds.length];
            for (int i = 0; i < bounds.length; i++) {
                at = blanks(text, at);
                String number = token(text, at);
                if (!number.matches("[0-9]+")) {
                    throw new Fault(2, at);
                }
                numbers[i] = Integer.parseInt(number);
                if (!in(numbers[i], bounds[i][0], bounds[i][1])) {
                    throw new Fault(3, at);
                }
                at += number.length();
            }
            at = blanks(text, at);
            if (!token(text, at).equals(";")) {
                throw new Fault(2, at);
            }
            at++;
            lines++;
            if (which < 4) {
                into.lamps.add(new int[] {which, numbers[0], numbers[1], numbers[2]});
            } else {
                into.rules[which - 4] = numbers[0];
                told.add(name);
            }
        }
    }

    public int text() {
        String all = tape.toString();
        tape = new StringBuilder();
        World into = new World();
        try {
            int lines = parse(all, into);
            w = into;
            images[0] = null;
            images[1] = null;
            fault = 0;
            return lines;
        } catch (Fault f) {
            fault = f.number;
            return -10 - f.place;
        }
    }

    public int fault() {
        return fault;
    }

    public int rule(int what) {
        if (!in(what, 0, 7)) {
            return BAD;
        }
        return new int[] {w.lamps.size(), w.shots, w.tick,
            w.rules[0], w.rules[1], w.rules[2], w.rules[3], w.shine(w.tick)}[what];
    }

    public int lamp(int l, int what) {
        if (!isLamp(l) || !in(what, 0, 4)) {
            return BAD;
        }
        return what == 4 ? w.give(w.lamps.get(l), w.tick) : w.lamps.get(l)[what];
    }

    public int row(int r) {
        if (!in(r, 0, 7)) {
            return BAD;
        }
        if (w.latest == null) {
            return STATE;
        }
        return r < w.latest.length ? w.latest[r] : NONE;
    }

    public int alter(int l, int what, int v) {
        if (!isLamp(l) || !in(what, 0, 3) || !in(v, LAMP_BOUNDS[what][0], LAMP_BOUNDS[what][1])) {
            return BAD;
        }
        int was = w.lamps.get(l)[what];
        w.lamps.get(l)[what] = v;
        return was;
    }

    public int tell(int what, int v) {
        if (!in(what, 0, 3) || !in(v, RULE_BOUNDS[what][0], RULE_BOUNDS[what][1])) {
            return BAD;
        }
        int was = w.rules[what];
        w.rules[what] = v;
        return was;
    }

    public int put(int kind, int light, int period) {
        if (!in(kind, 0, 3) || !in(light, 1, 9) || !in(period, 1, 12)) {
            return BAD;
        }
        if (w.lamps.size() == 4) {
            return FULL;
        }
        w.lamps.add(new int[] {kind, light, period, 0});
        return w.lamps.size();
    }

    public int cut(int n) {
        if (!in(n, 0, w.lamps.size())) {
            return BAD;
        }
        int were = w.lamps.size();
        w.lamps = new ArrayList<>(w.lamps.subList(0, n));
        return were;
    }

    public int rest(int n) {
        if (!in(n, 0, 60)) {
            return BAD;
        }
        if (w.tick + n >= 100000) {
            return FULL;
        }
        w.tick += n;
        return w.tick;
    }

    public int shoot(int n) {
        if (!in(n, 0, 40)) {
            return BAD;
        }
        if (w.tick + n * w.rules[3] >= 100000) {
            return FULL;
        }
        int greatest = 0;
        for (int i = 0; i < n; i++) {
            w.latest = w.shot(0);
            greatest = Math.max(greatest, World.bands(w.latest));
            w.tick += w.rules[3];
            w.shots++;
        }
        return greatest;
    }

    public int runs(int n, int what) {
        if (!in(n, 0, 40) || !in(what, 0, 3)) {
            return BAD;
        }
        int least = NONE;
        int sum = 0;
        int full = 0;
        for (int i = 0; i < n; i++) {
            int[] rows = w.shot(i);
            least = least == NONE ? World.bands(rows) : Math.min(least, World.bands(rows));
            sum += World.sum(rows);
            for (int v : rows) {
                full += v == 255 ? 1 : 0;
            }
        }
        return new int[] {w.greatest(n), least, sum, full}[what];
    }

    public int ahead(int n, int r) {
        if (!in(n, 0, 40) || !in(r, 0, w.rules[0] - 1)) {
            return BAD;
        }
        return w.shot(n)[r];
    }

    public int when(int b) {
        if (!in(b, 0, 255)) {
            return BAD;
        }
        for (int i = 0; i <= 40; i++) {
            if (World.bands(w.shot(i)) >= b) {
                return i;
            }
        }
        return NONE;
    }

    public int again() {
        for (int i = 1; i <= 40; i++) {
            if (java.util.Arrays.equals(w.shot(i), w.shot(0))) {
                return i;
            }
        }
        return NONE;
    }

    public int best(int which, int n, int what) {
        if (!in(which, 1, 3) || !in(n, 0, 40) || !in(what, 0, 1)) {
            return BAD;
        }
        int best = -1;
        int least = 1000;
        for (int v = RULE_BOUNDS[which][0]; v <= RULE_BOUNDS[which][1]; v++) {
            World t = w.copy();
            t.rules[which] = v;
            if (t.greatest(n) < least) {
                least = t.greatest(n);
                best = v;
            }
        }
        return what == 0 ? best : least;
    }

    private World with(int l, int part, int v) {
        World t = w.copy();
        t.lamps.get(l)[part] = v;
        return t;
    }

    private int bestOf(int l, int part, int n, int what) {
        if (!isLamp(l) || !in(n, 0, 40) || !in(what, 0, 1)) {
            return BAD;
        }
        int best = -1;
        int least = 1000;
        for (int v = 0; v <= LAMP_BOUNDS[part][1]; v++) {
            int greatest = with(l, part, v).greatest(n);
            if (greatest < least) {
                least = greatest;
                best = v;
            }
        }
        return what == 0 ? best : least;
    }

    public int kind(int l, int n, int what) {
        return bestOf(l, 0, n, what);
    }

    public int phase(int l, int n, int what) {
        return bestOf(l, 3, n, what);
    }

    public int out(int n, int what) {
        if (!in(n, 0, 40) || !in(what, 0, 1)) {
            return BAD;
        }
        int best = NONE;
        int least = w.greatest(n);
        for (int l = 0; l < w.lamps.size(); l++) {
            World t = w.copy();
            t.lamps.remove(l);
            if (t.greatest(n) < least) {
                least = t.greatest(n);
                best = l;
            }
        }
        return what == 0 || best == NONE ? best : least;
    }

    /** The sum over all patterns of SHOTS that fail, of what is counted times the pattern's weight, by ten to the n. */
    private long overPatterns(int v, int n, int b, boolean counting, int what) {
        World steady = w.copy();
        steady.lamps.removeIf(lamp -> lamp[0] != 0);
        java.math.BigInteger top = java.math.BigInteger.ZERO;
        for (int pattern = 0; pattern < 1 << n; pattern++) {
            long weight = 1;
            long light = 0;
            boolean good = true;
            for (int i = 0; i < n; i++) {
                boolean fails = (pattern >> i & 1) == 1;
                weight *= fails ? v : 10 - v;
                int[] rows = (fails ? steady : w).shot(i);
                light += World.sum(rows);
                good &= World.bands(rows) <= b;
            }
            top = top.add(java.math.BigInteger.valueOf(weight * (counting ? good ? 1 : 0 : light)));
        }
        java.math.BigInteger bottom = java.math.BigInteger.TEN.pow(n);
        java.math.BigInteger common = top.gcd(bottom);
        return (what == 0 ? top : bottom).divide(common).longValueExact();
    }

    public long luck(int v, int n, int b, int what) {
        if (!in(v, 0, 10) || !in(n, 0, 8) || !in(b, 0, 255) || !in(what, 0, 1)) {
            return BAD;
        }
        return overPatterns(v, n, b, true, what);
    }

    public long mean(int v, int n, int what) {
        if (!in(v, 0, 10) || !in(n, 0, 8) || !in(what, 0, 1)) {
            return BAD;
        }
        return overPatterns(v, n, 0, false, what);
    }

    public int see(int n, int r, int v) {
        if (!in(n, 0, 20) || !in(r, 0, 7) || !in(v, 0, 255)) {
            return BAD;
        }
        if (w.seen.size() == 6) {
            return FULL;
        }
        w.seen.add(new int[] {n, r, v});
        return w.seen.size();
    }

    public int forget(int n) {
        if (!in(n, 0, w.seen.size())) {
            return BAD;
        }
        int were = w.seen.size();
        w.seen = new ArrayList<>(w.seen.subList(0, n));
        return were;
    }

    private int fits(int l, int part) {
        if (!isLamp(l)) {
            return BAD;
        }
        int bits = 0;
        for (int v = 0; v <= LAMP_BOUNDS[part][1]; v++) {
            bits |= with(l, part, v).asSeen() ? 1 << v : 0;
        }
        return bits;
    }

    public int kinds(int l) {
        return fits(l, 0);
    }

    public int phases(int l) {
        return fits(l, 3);
    }

    public int ask(int l, int what) {
        if (!isLamp(l) || !in(what, 0, 1)) {
            return BAD;
        }
        int fits = phases(l);
        int best = NONE;
        int fewest = Integer.bitCount(fits);
        for (int n = 0; n <= 20; n++) {
            for (int r = 0; r < w.rules[0]; r++) {
                int[] left = new int[256];
                int worst = 0;
                for (int p = 0; p < 12; p++) {
                    if ((fits >> p & 1) == 1) {
                        int bright = with(l, 3, p).shot(n)[r];
                        left[bright]++;
                        worst = Math.max(worst, left[bright]);
                    }
                }
                if (worst < fewest) {
                    fewest = worst;
                    best = 10 * n + r;
                }
            }
        }
        return what == 0 || best == NONE ? best : fewest;
    }

    public int drift(int seed, int n, int what) {
        if (!in(n, 1, 40) || !in(what, 0, 1)) {
            return BAD;
        }
        if (w.lamps.isEmpty()) {
            return STATE;
        }
        World t = w.copy();
        long s = seed;
        int greatest = 0;
        int sum = 0;
        for (int i = 0; i < n; i++) {
            s = s * 1103515245L + 12345L & 0xffffffffL;
            int got = (int) (s >> 16) % 32768;
            t.lamps.get(got % t.lamps.size())[3] = got / 8 % 12;
            int[] rows = t.shot(0);
            greatest = Math.max(greatest, World.bands(rows));
            sum += World.sum(rows);
            t.tick += t.rules[3];
        }
        return what == 0 ? greatest : sum;
    }

    public int keep(int k) {
        if (!in(k, 0, 1)) {
            return BAD;
        }
        int was = images[k] == null ? 0 : 1;
        images[k] = w.copy();
        return was;
    }

    public int back(int k) {
        if (!in(k, 0, 1)) {
            return BAD;
        }
        if (images[k] == null) {
            return STATE;
        }
        w = images[k].copy();
        return w.tick;
    }

    public int sheet(int k, int lane, int n) {
        if (!in(k, 0, 3) || !in(lane, 0, 2) || n > 40) {
            return BAD;
        }
        try {
            sheets[k] = lane == 0 ? new byte[n] : lane == 1 ? new short[n] : (Object) new int[n];
            return 1;
        } catch (NegativeArraySizeException e) {
            return -14;
        }
    }

    public int lay(int k, int i, int v) {
        if (!in(k, 0, 3)) {
            return BAD;
        }
        try {
            if (sheets[k] instanceof byte[] bytes) {
                bytes[i] = (byte) v;
            } else if (sheets[k] instanceof short[] shorts) {
                shorts[i] = (short) v;
            } else {
                ((int[]) sheets[k])[i] = v;
            }
            return 1;
        } catch (NullPointerException e) {
            return -11;
        } catch (ArrayIndexOutOfBoundsException e) {
            return -12;
        }
    }

    public int read(int k, int lane, int f, int n) {
        if (!in(k, 0, 3) || !in(lane, 0, 2) || !in(n, 0, 20)) {
            return BAD;
        }
        World t = w.copy();
        int came = 0;
        int met = 0;
        try {
            for (int i = 0; i < n; i++) {
                byte[] bytes = lane == 0 ? (byte[]) sheets[k] : null;
                short[] shorts = lane == 1 ? (short[]) sheets[k] : null;
                int[] ints = lane == 2 ? (int[]) sheets[k] : null;
                int at = f + 2 * i;
                int l = lane == 0 ? bytes[at] : lane == 1 ? shorts[at] : ints[at];
                int p = lane == 0 ? bytes[at + 1] : lane == 1 ? shorts[at + 1] : ints[at + 1];
                if (!isLamp(l) || !in(p, 0, 11)) {
                    return -20 - i;
                }
                t.lamps.get(l)[3] = p;
                came++;
            }
        } catch (NullPointerException e) {
            met = 1;
        } catch (ArrayIndexOutOfBoundsException e) {
            met = 2;
        } catch (ClassCastException e) {
            met = 3;
        }
        w = t;
        torn = met;
        return came;
    }

    public int torn() {
        return torn;
    }

    public int count(int what) {
        int lights = 0;
        int periods = 0;
        for (int[] lamp : w.lamps) {
            lights += lamp[1];
            periods += lamp[2];
        }
        switch (what) {
            case 0: return w.seen.size();
            case 1: return (images[0] == null ? 0 : 1) + (images[1] == null ? 0 : 1);
            case 2: return tape.length();
            case 3: return sheets[0] == null ? NONE : java.lang.reflect.Array.getLength(sheets[0]);
            case 4: return lights;
            case 5: return periods;
            default: return BAD;
        }
    }
}
