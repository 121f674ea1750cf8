import java.util.Arrays;

/** A camera that looks row by row under lamps that flicker; ../shared/DOC.md says what each call promises. */
public final class RowShutter {
    public static final int BAD = -1, STATE = -2, FULL = -3, NONE = -4;

    private static final int MOST_LAMPS = 4;
    private static final int MOST_ROWS = 8;
    private static final int MOST_PERIOD = 12;
    private static final int PHASES = 12;
    private static final int MOST_BRIGHT = 255;
    private static final int MOST_SHOTS = 40;
    private static final int MOST_REST = 60;
    private static final int TICK_LIMIT = 100000;
    private static final int MOST_SEEN = 6;
    private static final int LAST_SEEN_SHOT = 20;
    private static final int TAPE_BYTES = 160;
    private static final int MOST_FIGURES = 2;
    private static final int IMAGES = 2;
    private static final int SHEETS = 4;
    private static final int MOST_CELLS = 40;
    private static final int MOST_READ = 20;
    private static final int ODDS = 10;
    private static final int MOST_ODDS_SHOTS = 8;

    /** The parts of a LAMP, as alter() numbers them. */
    private static final int KIND = 0, LIGHT = 1, PERIOD = 2, PHASE = 3, PARTS = 4;
    private static final int[] PART_LEAST = {0, 1, 1, 0};
    private static final int[] PART_MOST = {3, 9, 12, 11};

    private static final int STEADY = 0, BLINK = 1, SAW = 2, PAIR = 3, KINDS = 4;

    /** The rules of the camera, as tell() numbers them. */
    private static final int ROWS = 0, DELAY = 1, EXPOSE = 2, PACE = 3, RULES = 4;
    private static final int[] RULE_LEAST = {1, 0, 1, 1};
    private static final int[] RULE_MOST = {8, 9, 20, 60};
    private static final int[] RULE_FIRST = {4, 2, 4, 20};

    private static final int FAULT_TOKEN = 1, FAULT_PLACE = 2, FAULT_BOUNDS = 3, FAULT_TWICE = 4, FAULT_LAMPS = 5;
    private static final int FAULT_NULL = 1, FAULT_INDEX = 2, FAULT_CAST = 3, FAULT_SIZE = 4;
    /** What an answer that names a FAULT, or the place of one, is counted down from. */
    private static final int FAULT_BASE = -10;
    private static final int REFUSED_BASE = -20;

    private final Scene now = new Scene();
    /** For what-if questions and half-read texts: whoever uses it fills it first. */
    private final Scene draft = new Scene();
    private final Scene[] images = new Scene[IMAGES];
    private final boolean[] kept = new boolean[IMAGES];
    private final Sheet[] sheets = new Sheet[SHEETS];
    private final Tape tape = new Tape();
    private final int[] brights = new int[PHASES];
    private int tornBy;

    public RowShutter() {
        for (int k = 0; k < IMAGES; k++) {
            images[k] = new Scene();
        }
        for (int k = 0; k < SHEETS; k++) {
            sheets[k] = new Sheet();
        }
    }

    // ---- the text

    public int feed(int c) {
        if (outside(c, 0, 127)) {
            return BAD;
        }
        return tape.append(c) ? tape.length : FULL;
    }

    public int end(int n) {
        if (outside(n, 0, tape.length)) {
            return BAD;
        }
        int had = tape.length;
        tape.length = n;
        return had;
    }

    public int text() {
        int answer = tape.readInto(draft);
        tape.length = 0;
        if (tape.fault == 0) {
            now.copyFrom(draft);
            for (int k = 0; k < IMAGES; k++) {
                kept[k] = false;
            }
        }
        return answer;
    }

    public int fault() {
        return tape.fault;
    }

    public int rule(int what) {
        switch (what) {
            case 0: return now.lampCount;
            case 1: return now.shots;
            case 2: return now.tick;
            case 3: return now.rules[ROWS];
            case 4: return now.rules[DELAY];
            case 5: return now.rules[EXPOSE];
            case 6: return now.rules[PACE];
            case 7: return now.shine();
            default: return BAD;
        }
    }

    public int lamp(int l, int what) {
        Lamp lamp = now.lampAt(l);
        if (lamp == null || outside(what, 0, PARTS)) {
            return BAD;
        }
        return what < PARTS ? lamp.parts[what] : lamp.gives(now.tick, 1);
    }

    public int row(int r) {
        if (outside(r, 0, MOST_ROWS - 1)) {
            return BAD;
        }
        if (now.shots == 0) {
            return STATE;
        }
        return r < now.latestRows ? now.latest[r] : NONE;
    }

    // ---- what is changed

    public int alter(int l, int what, int v) {
        Lamp lamp = now.lampAt(l);
        if (lamp == null || !isPart(what, v)) {
            return BAD;
        }
        int was = lamp.parts[what];
        lamp.become(what, v);
        return was;
    }

    public int tell(int what, int v) {
        if (!isRule(what, v)) {
            return BAD;
        }
        int was = now.rules[what];
        now.rules[what] = v;
        return was;
    }

    public int put(int kind, int light, int period) {
        if (!isPart(KIND, kind) || !isPart(LIGHT, light) || !isPart(PERIOD, period)) {
            return BAD;
        }
        return now.addLamp(kind, light, period, 0) ? now.lampCount : FULL;
    }

    public int cut(int n) {
        if (outside(n, 0, now.lampCount)) {
            return BAD;
        }
        int were = now.lampCount;
        now.lampCount = n;
        return were;
    }

    public int rest(int n) {
        if (outside(n, 0, MOST_REST)) {
            return BAD;
        }
        if (now.tick + n >= TICK_LIMIT) {
            return FULL;
        }
        now.tick += n;
        return now.tick;
    }

    // ---- shots

    public int shoot(int n) {
        if (outside(n, 0, MOST_SHOTS)) {
            return BAD;
        }
        if (now.startOf(n) >= TICK_LIMIT) {
            return FULL;
        }
        int greatest = now.greatestBands(n);
        now.take(n);
        return greatest;
    }

    public int runs(int n, int what) {
        if (outside(n, 0, MOST_SHOTS)) {
            return BAD;
        }
        switch (what) {
            case 0: return now.greatestBands(n);
            case 1: return now.leastBands(n);
            case 2: return now.lightOfShots(n);
            case 3: return now.fullRows(n);
            default: return BAD;
        }
    }

    public int ahead(int n, int r) {
        if (outside(n, 0, MOST_SHOTS) || outside(r, 0, now.rules[ROWS] - 1)) {
            return BAD;
        }
        return now.bright(n, r);
    }

    public int when(int b) {
        if (outside(b, 0, MOST_BRIGHT)) {
            return BAD;
        }
        for (int shot = 0; shot <= MOST_SHOTS; shot++) {
            if (now.bands(shot) >= b) {
                return shot;
            }
        }
        return NONE;
    }

    public int again() {
        for (int shot = 1; shot <= MOST_SHOTS; shot++) {
            if (now.isLikeFirst(shot)) {
                return shot;
            }
        }
        return NONE;
    }

    // ---- what is best

    public int best(int which, int n, int what) {
        if (outside(which, DELAY, PACE) || outside(n, 0, MOST_SHOTS) || outside(what, 0, 1)) {
            return BAD;
        }
        draft.copyFrom(now);
        int best = NONE;
        int least = MOST_BRIGHT + 1;
        for (int v = RULE_LEAST[which]; v <= RULE_MOST[which]; v++) {
            draft.rules[which] = v;
            int greatest = draft.greatestBands(n);
            if (greatest < least) {
                least = greatest;
                best = v;
            }
        }
        return what == 0 ? best : least;
    }

    public int kind(int l, int n, int what) {
        return bestPart(l, KIND, n, what);
    }

    public int phase(int l, int n, int what) {
        return bestPart(l, PHASE, n, what);
    }

    public int out(int n, int what) {
        if (outside(n, 0, MOST_SHOTS) || outside(what, 0, 1)) {
            return BAD;
        }
        draft.copyFrom(now);
        int best = NONE;
        int least = now.greatestBands(n);
        for (int l = 0; l < now.lampCount; l++) {
            draft.lamps[l].putOut();
            int greatest = draft.greatestBands(n);
            draft.lamps[l].copyFrom(now.lamps[l]);
            if (greatest < least) {
                least = greatest;
                best = l;
            }
        }
        return what == 0 || best == NONE ? best : least;
    }

    // ---- lamps that fail

    public long luck(int v, int n, int b, int what) {
        if (outside(v, 0, ODDS) || outside(n, 0, MOST_ODDS_SHOTS) || outside(b, 0, MOST_BRIGHT) || outside(what, 0, 1)) {
            return BAD;
        }
        draftSteadyLamps();
        long good = 1;
        long all = 1;
        for (int shot = 0; shot < n; shot++) {
            int whole = now.bands(shot) <= b ? ODDS - v : 0;
            int failed = draft.bands(shot) <= b ? v : 0;
            good *= whole + failed;
            all *= ODDS;
        }
        return inLowestTerms(good, all, what);
    }

    public long mean(int v, int n, int what) {
        if (outside(v, 0, ODDS) || outside(n, 0, MOST_ODDS_SHOTS) || outside(what, 0, 1)) {
            return BAD;
        }
        draftSteadyLamps();
        long whole = now.lightOfShots(n);
        long failed = draft.lightOfShots(n);
        return inLowestTerms(whole * (ODDS - v) + failed * v, ODDS, what);
    }

    // ---- from rows

    public int see(int n, int r, int v) {
        if (outside(n, 0, LAST_SEEN_SHOT) || outside(r, 0, MOST_ROWS - 1) || outside(v, 0, MOST_BRIGHT)) {
            return BAD;
        }
        return now.addSeen(n, r, v) ? now.seenCount : FULL;
    }

    public int forget(int n) {
        if (outside(n, 0, now.seenCount)) {
            return BAD;
        }
        int were = now.seenCount;
        now.seenCount = n;
        return were;
    }

    public int kinds(int l) {
        return fitting(l, KIND);
    }

    public int phases(int l) {
        return fitting(l, PHASE);
    }

    public int ask(int l, int what) {
        if (now.lampAt(l) == null || outside(what, 0, 1)) {
            return BAD;
        }
        int fits = fitting(l, PHASE);
        int place = NONE;
        int fewest = Integer.bitCount(fits);
        for (int shot = 0; shot <= LAST_SEEN_SHOT; shot++) {
            for (int r = 0; r < now.rules[ROWS]; r++) {
                int left = mostAlike(l, fits, shot, r);
                if (left < fewest) {
                    fewest = left;
                    place = 10 * shot + r;
                }
            }
        }
        return what == 0 || place == NONE ? place : fewest;
    }

    // ---- by a seed

    public int drift(int seed, int n, int what) {
        if (outside(n, 1, MOST_SHOTS) || outside(what, 0, 1)) {
            return BAD;
        }
        if (now.lampCount < 1) {
            return STATE;
        }
        draft.copyFrom(now);
        int greatest = 0;
        int light = 0;
        int state = seed;
        for (int shot = 0; shot < n; shot++) {
            state = state * 1103515245 + 12345;
            int got = (state >>> 16) & 0x7fff;
            draft.lamps[got % now.lampCount].become(PHASE, got / 8 % PHASES);
            greatest = Math.max(greatest, draft.bands(shot));
            light += draft.lightOf(shot);
        }
        return what == 0 ? greatest : light;
    }

    // ---- images, sheets

    public int keep(int k) {
        if (outside(k, 0, IMAGES - 1)) {
            return BAD;
        }
        int was = kept[k] ? 1 : 0;
        images[k].copyFrom(now);
        kept[k] = true;
        return was;
    }

    public int back(int k) {
        if (outside(k, 0, IMAGES - 1)) {
            return BAD;
        }
        if (!kept[k]) {
            return STATE;
        }
        now.copyFrom(images[k]);
        return now.tick;
    }

    public int sheet(int k, int lane, int n) {
        if (outside(k, 0, SHEETS - 1) || outside(lane, Sheet.BYTES, Sheet.INTS) || n > MOST_CELLS) {
            return BAD;
        }
        if (n < 0) {
            return FAULT_BASE - FAULT_SIZE;
        }
        sheets[k].renew(lane, n);
        return 1;
    }

    public int lay(int k, int i, int v) {
        if (outside(k, 0, SHEETS - 1)) {
            return BAD;
        }
        int met = sheets[k].faultAt(i);
        if (met != 0) {
            return FAULT_BASE - met;
        }
        sheets[k].store(i, v);
        return 1;
    }

    public int read(int k, int lane, int f, int n) {
        if (outside(k, 0, SHEETS - 1) || outside(lane, Sheet.BYTES, Sheet.INTS) || outside(n, 0, MOST_READ)) {
            return BAD;
        }
        Sheet sheet = sheets[k];
        int met = 0;
        int whole = 0;
        for (int i = 0; i < n && met == 0; i++) {
            int at = f + 2 * i;
            met = sheet.faultOfPair(lane, at);
            if (met == 0) {
                if (!isPhaseOfLamp(sheet, at)) {
                    return REFUSED_BASE - i;
                }
                whole++;
            }
        }
        tornBy = met;
        takePhases(sheet, f, whole);
        return whole;
    }

    public int torn() {
        return tornBy;
    }

    public int count(int what) {
        switch (what) {
            case 0: return now.seenCount;
            case 1: return (kept[0] ? 1 : 0) + (kept[1] ? 1 : 0);
            case 2: return tape.length;
            case 3: return sheets[0].lane == Sheet.NOTHING ? NONE : sheets[0].size;
            case 4: return now.sumOfPart(LIGHT);
            case 5: return now.sumOfPart(PERIOD);
            default: return BAD;
        }
    }

    // ---- what the calls share

    private static boolean outside(int v, int least, int most) {
        return v < least || v > most;
    }

    private static boolean isPart(int what, int v) {
        return what >= 0 && what < PARTS && v >= PART_LEAST[what] && v <= PART_MOST[what];
    }

    private static boolean isRule(int what, int v) {
        return what >= 0 && what < RULES && v >= RULE_LEAST[what] && v <= RULE_MOST[what];
    }

    /** What kind() and phase() answer: which value of a part makes the greatest BANDS least. */
    private int bestPart(int l, int part, int n, int what) {
        if (now.lampAt(l) == null || outside(n, 0, MOST_SHOTS) || outside(what, 0, 1)) {
            return BAD;
        }
        draft.copyFrom(now);
        int best = NONE;
        int least = MOST_BRIGHT + 1;
        for (int v = PART_LEAST[part]; v <= PART_MOST[part]; v++) {
            draft.lamps[l].become(part, v);
            int greatest = draft.greatestBands(n);
            if (greatest < least) {
                least = greatest;
                best = v;
            }
        }
        return what == 0 ? best : least;
    }

    /** What kinds() and phases() answer: the values of a part by which all is as SEEN, as bits. */
    private int fitting(int l, int part) {
        if (now.lampAt(l) == null) {
            return BAD;
        }
        draft.copyFrom(now);
        int bits = 0;
        for (int v = PART_LEAST[part]; v <= PART_MOST[part]; v++) {
            draft.lamps[l].become(part, v);
            if (draft.isAsSeen()) {
                bits |= 1 << v;
            }
        }
        return bits;
    }

    /** Of the PHASES in fits, how many the worst look at a ROW would leave; draft is a copy of now but for PHASES. */
    private int mostAlike(int l, int fits, int shot, int r) {
        int most = 0;
        for (int p = 0; p < brights.length; p++) {
            if ((fits >> p & 1) == 0) {
                continue;
            }
            draft.lamps[l].become(PHASE, p);
            brights[p] = draft.bright(shot, r);
            int alike = 0;
            for (int q = 0; q <= p; q++) {
                if ((fits >> q & 1) == 1 && brights[q] == brights[p]) {
                    alike++;
                }
            }
            most = Math.max(most, alike);
        }
        return most;
    }

    /** The draft is as now, but that all LAMPS but steady ones fail. */
    private void draftSteadyLamps() {
        draft.copyFrom(now);
        for (int l = 0; l < draft.lampCount; l++) {
            if (draft.lamps[l].parts[KIND] != STEADY) {
                draft.lamps[l].putOut();
            }
        }
    }

    private static long inLowestTerms(long top, long bottom, int what) {
        long divisor = top;
        long other = bottom;
        // Euclid's steps for two longs are fewer than a hundred
        for (int step = 0; step < 100 && other != 0; step++) {
            long left = divisor % other;
            divisor = other;
            other = left;
        }
        if (divisor < 1) {
            return what == 0 ? top : bottom;
        }
        return what == 0 ? top / divisor : bottom / divisor;
    }

    private boolean isPhaseOfLamp(Sheet sheet, int at) {
        return now.lampAt(sheet.cells[at]) != null && isPart(PHASE, sheet.cells[at + 1]);
    }

    private void takePhases(Sheet sheet, int from, int pairs) {
        for (int i = 0; i < pairs; i++) {
            int at = from + 2 * i;
            now.lamps[sheet.cells[at]].become(PHASE, sheet.cells[at + 1]);
        }
    }

    private static final class Lamp {
        final int[] parts = {STEADY, 1, 1, 0};
        /** sums[s]: what the STANDS below s give, summed, so that a long exposure needs no walk over its TICKS. */
        private final int[] sums = new int[MOST_PERIOD + 1];

        void copyFrom(Lamp other) {
            System.arraycopy(other.parts, 0, parts, 0, PARTS);
            System.arraycopy(other.sums, 0, sums, 0, sums.length);
        }

        void become(int what, int v) {
            if (!isPart(what, v)) {
                return;
            }
            parts[what] = v;
            if (what != PHASE) {
                sumUp();
            }
        }

        /** It gives nothing, until it becomes another or is copied over. */
        void putOut() {
            Arrays.fill(sums, 0);
        }

        /** What it gives in so many TICKS, the first of them tick. */
        int gives(int tick, int ticks) {
            int period = parts[PERIOD];
            if (period < 1 || period > MOST_PERIOD || tick < 0 || ticks < 0) {
                return 0;
            }
            int stand = (tick + parts[PHASE]) % period;
            int past = stand + ticks % period;
            int rounds = ticks / period;
            if (past >= period) {
                past -= period;
                rounds++;
            }
            return rounds * sums[period] + sums[past] - sums[stand];
        }

        private void sumUp() {
            for (int stand = 0; stand < parts[PERIOD] && stand < MOST_PERIOD; stand++) {
                sums[stand + 1] = sums[stand] + givesAt(stand);
            }
        }

        private int givesAt(int stand) {
            int light = parts[LIGHT];
            int period = parts[PERIOD];
            boolean early = 2 * stand < period;
            switch (parts[KIND]) {
                case BLINK: return early ? light : 0;
                case SAW: return period < 1 ? 0 : light * stand / period;
                case PAIR: return early ? light : light / 2;
                default: return light;
            }
        }
    }

    /** All that a text tells and an IMAGE keeps. */
    private static final class Scene {
        /** All are there from the start; only the first lampCount of them are LAMPS. */
        final Lamp[] lamps = new Lamp[MOST_LAMPS];
        int lampCount;
        final int[] rules = new int[RULES];
        int tick;
        int shots;
        final int[] latest = new int[MOST_ROWS];
        int latestRows;
        private final int[] seenShot = new int[MOST_SEEN];
        private final int[] seenRow = new int[MOST_SEEN];
        private final int[] seenBright = new int[MOST_SEEN];
        int seenCount;

        Scene() {
            for (int l = 0; l < MOST_LAMPS; l++) {
                lamps[l] = new Lamp();
            }
            System.arraycopy(RULE_FIRST, 0, rules, 0, RULES);
        }

        void clear() {
            lampCount = 0;
            System.arraycopy(RULE_FIRST, 0, rules, 0, RULES);
            tick = 0;
            shots = 0;
            latestRows = 0;
            seenCount = 0;
        }

        void copyFrom(Scene other) {
            for (int l = 0; l < other.lampCount; l++) {
                lamps[l].copyFrom(other.lamps[l]);
            }
            lampCount = other.lampCount;
            System.arraycopy(other.rules, 0, rules, 0, RULES);
            tick = other.tick;
            shots = other.shots;
            System.arraycopy(other.latest, 0, latest, 0, MOST_ROWS);
            latestRows = other.latestRows;
            System.arraycopy(other.seenShot, 0, seenShot, 0, MOST_SEEN);
            System.arraycopy(other.seenRow, 0, seenRow, 0, MOST_SEEN);
            System.arraycopy(other.seenBright, 0, seenBright, 0, MOST_SEEN);
            seenCount = other.seenCount;
        }

        Lamp lampAt(int l) {
            return l >= 0 && l < lampCount ? lamps[l] : null;
        }

        boolean addLamp(int kind, int light, int period, int phase) {
            if (lampCount >= MOST_LAMPS) {
                return false;
            }
            Lamp lamp = lamps[lampCount];
            lamp.become(KIND, kind);
            lamp.become(LIGHT, light);
            lamp.become(PERIOD, period);
            lamp.become(PHASE, phase);
            lampCount++;
            return true;
        }

        boolean addSeen(int shot, int r, int bright) {
            if (seenCount >= MOST_SEEN) {
                return false;
            }
            seenShot[seenCount] = shot;
            seenRow[seenCount] = r;
            seenBright[seenCount] = bright;
            seenCount++;
            return true;
        }

        int sumOfPart(int part) {
            int sum = 0;
            for (int l = 0; l < lampCount; l++) {
                sum += lamps[l].parts[part];
            }
            return sum;
        }

        int shine() {
            return lightIn(tick, 1);
        }

        private int lightIn(int first, int ticks) {
            int sum = 0;
            for (int l = 0; l < lampCount; l++) {
                sum += lamps[l].gives(first, ticks);
            }
            return sum;
        }

        /** The TICK at which a SHOT from now on begins. */
        int startOf(int shot) {
            return tick + shot * rules[PACE];
        }

        int bright(int shot, int r) {
            return Math.min(MOST_BRIGHT, lightIn(startOf(shot) + rules[DELAY] * r, rules[EXPOSE]));
        }

        int bands(int shot) {
            int brightest = 0;
            int darkest = MOST_BRIGHT;
            for (int r = 0; r < rules[ROWS]; r++) {
                int bright = bright(shot, r);
                brightest = Math.max(brightest, bright);
                darkest = Math.min(darkest, bright);
            }
            return brightest - darkest;
        }

        int lightOf(int shot) {
            int sum = 0;
            for (int r = 0; r < rules[ROWS]; r++) {
                sum += bright(shot, r);
            }
            return sum;
        }

        boolean isLikeFirst(int shot) {
            for (int r = 0; r < rules[ROWS]; r++) {
                if (bright(shot, r) != bright(0, r)) {
                    return false;
                }
            }
            return true;
        }

        int greatestBands(int n) {
            int greatest = 0;
            for (int shot = 0; shot < n; shot++) {
                greatest = Math.max(greatest, bands(shot));
            }
            return greatest;
        }

        int leastBands(int n) {
            if (n < 1) {
                return NONE;
            }
            int least = MOST_BRIGHT;
            for (int shot = 0; shot < n; shot++) {
                least = Math.min(least, bands(shot));
            }
            return least;
        }

        int lightOfShots(int n) {
            int sum = 0;
            for (int shot = 0; shot < n; shot++) {
                sum += lightOf(shot);
            }
            return sum;
        }

        int fullRows(int n) {
            int full = 0;
            for (int shot = 0; shot < n; shot++) {
                for (int r = 0; r < rules[ROWS]; r++) {
                    full += bright(shot, r) == MOST_BRIGHT ? 1 : 0;
                }
            }
            return full;
        }

        void take(int n) {
            if (n < 1) {
                return;
            }
            latestRows = rules[ROWS];
            for (int r = 0; r < latestRows; r++) {
                latest[r] = bright(n - 1, r);
            }
            tick = startOf(n);
            shots += n;
        }

        boolean isAsSeen() {
            for (int i = 0; i < seenCount; i++) {
                if (seenRow[i] >= rules[ROWS] || bright(seenShot[i], seenRow[i]) != seenBright[i]) {
                    return false;
                }
            }
            return true;
        }
    }

    /** THE TAPE, and how it is read: token by token, up to its end or its first FAULT. */
    private static final class Tape {
        private static final int NAME = 0, NUMBER = 1, STOP = 2, END = 3;

        private final byte[] bytes = new byte[TAPE_BYTES];
        int length;
        /** The latest token: what it is, its first byte, the place behind it. */
        private int token;
        private int start;
        private int at;
        private int toldRules;
        /** The FAULT of the latest reading; it stands at the latest token. */
        int fault;

        boolean append(int c) {
            if (length >= TAPE_BYTES) {
                return false;
            }
            bytes[length] = (byte) c;
            length++;
            return true;
        }

        /** How many lines there are, or what text() answers to a FAULT. */
        int readInto(Scene scene) {
            scene.clear();
            at = 0;
            toldRules = 0;
            fault = 0;
            advance();
            int lines = 0;
            for (; lines < TAPE_BYTES && fault == 0 && token != END; lines++) {
                readLine(scene);
                if (fault == 0) {
                    advance();
                }
            }
            return fault == 0 ? lines : FAULT_BASE - start;
        }

        private void readLine(Scene scene) {
            int line = lineBegun();
            if (line < 0) {
                fault = FAULT_PLACE;
            } else if (line < KINDS) {
                readLamp(scene, line);
            } else {
                readRule(scene, line - KINDS);
            }
            if (fault == 0) {
                advance();
            }
            if (fault == 0 && token != STOP) {
                fault = FAULT_PLACE;
            }
        }

        private void readLamp(Scene scene, int kind) {
            if (scene.lampCount >= MOST_LAMPS) {
                fault = FAULT_LAMPS;
                return;
            }
            int light = readNumber(PART_LEAST[LIGHT], PART_MOST[LIGHT]);
            int period = readNumber(PART_LEAST[PERIOD], PART_MOST[PERIOD]);
            int phase = readNumber(PART_LEAST[PHASE], PART_MOST[PHASE]);
            if (fault == 0) {
                scene.addLamp(kind, light, period, phase);
            }
        }

        private void readRule(Scene scene, int what) {
            if ((toldRules >> what & 1) == 1) {
                fault = FAULT_TWICE;
                return;
            }
            toldRules |= 1 << what;
            int v = readNumber(RULE_LEAST[what], RULE_MOST[what]);
            if (fault == 0) {
                scene.rules[what] = v;
            }
        }

        /** Behind a FAULT it reads no more, so that the first one stays. */
        private int readNumber(int least, int most) {
            if (fault == 0) {
                advance();
            }
            if (fault == 0 && token != NUMBER) {
                fault = FAULT_PLACE;
            }
            if (fault != 0) {
                return 0;
            }
            int value = 0;
            for (int i = start; i < at; i++) {
                value = 10 * value + bytes[i] - '0';
            }
            if (outside(value, least, most)) {
                fault = FAULT_BOUNDS;
            }
            return value;
        }

        private void advance() {
            takeAll(' ', ' ');
            start = at;
            int c = at < length ? bytes[at] : -1;
            if (c < 0) {
                token = END;
            } else if (c >= 'a' && c <= 'z') {
                token = NAME;
                takeAll('a', 'z');
            } else if (c >= '0' && c <= '9') {
                token = NUMBER;
                takeAll('0', '9');
                if (at - start > MOST_FIGURES) {
                    fault = FAULT_TOKEN;
                }
            } else if (c == ';') {
                token = STOP;
                at++;
            } else {
                fault = FAULT_TOKEN;
            }
        }

        private void takeAll(char least, char most) {
            while (at < length && bytes[at] >= least && bytes[at] <= most) {
                at++;
            }
        }

        /** Which line the latest token begins: a LAMP by its KIND, then the rules; -1 for none. */
        private int lineBegun() {
            if (token != NAME) {
                return -1;
            }
            for (int line = 0; line < KINDS + RULES; line++) {
                if (isCalled(nameOf(line))) {
                    return line;
                }
            }
            return -1;
        }

        private boolean isCalled(String name) {
            if (name.length() != at - start) {
                return false;
            }
            for (int i = 0; i < name.length(); i++) {
                if (bytes[start + i] != name.charAt(i)) {
                    return false;
                }
            }
            return true;
        }

        private static String nameOf(int line) {
            switch (line) {
                case STEADY: return "steady";
                case BLINK: return "blink";
                case SAW: return "saw";
                case PAIR: return "pair";
                case KINDS + ROWS: return "rows";
                case KINDS + DELAY: return "delay";
                case KINDS + EXPOSE: return "expose";
                default: return "pace";
            }
        }
    }

    private static final class Sheet {
        static final int NOTHING = -1, BYTES = 0, SHORTS = 1, INTS = 2;

        final int[] cells = new int[MOST_CELLS];
        int lane = NOTHING;
        int size;

        void renew(int newLane, int newSize) {
            Arrays.fill(cells, 0);
            lane = newLane;
            size = newSize;
        }

        /** What the machine would find where the CELL is used. */
        int faultAt(int i) {
            if (lane == NOTHING) {
                return FAULT_NULL;
            }
            return i < 0 || i >= size ? FAULT_INDEX : 0;
        }

        /** The lane is looked at with each pair, not once ahead: where no pair is read there is no FAULT. */
        int faultOfPair(int wanted, int i) {
            if (lane != NOTHING && lane != wanted) {
                return FAULT_CAST;
            }
            int first = faultAt(i);
            return first != 0 ? first : faultAt(i + 1);
        }

        void store(int i, int v) {
            if (faultAt(i) != 0) {
                return;
            }
            switch (lane) {
                case BYTES: cells[i] = (byte) v; break;
                case SHORTS: cells[i] = (short) v; break;
                default: cells[i] = v;
            }
        }
    }
}
