/** Promises 31 to 37, sentence by sentence, at their edges. */
public final class SheetEdgeTest {
    private static final Sentences SAYS = new Sentences("SheetEdgeTest", 31, 37);
    private static final int MIN = Integer.MIN_VALUE, MAX = Integer.MAX_VALUE;

    public static void main(String[] args) {
        keepWhat();
        keepWhether();
        back();
        backRefuses();
        sheet();
        sheetRefuses();
        lay();
        layRefuses();
        readPairs();
        readTorn();
        readBad();
        readRefused();
        readTheFirstMet();
        torn();
        count();
        SAYS.finish();
    }

    private static RowShutter scene() {
        RowShutter x = Check.told("saw 9 9 3;pair 5 7 2;blink 4 6 1;steady 3 5 11;rows 3;delay 1;expose 3;pace 7;");
        x.shoot(2);
        x.rest(5);
        for (int i = 0; i < 6; i++) {
            x.see(2 * i, i % 3, x.ahead(2 * i, i % 3));
        }
        return x;
    }

    private static void changeAll(RowShutter x) {
        x.alter(0, 0, 0);
        x.alter(0, 1, 1);
        x.alter(0, 2, 1);
        x.alter(0, 3, 0);
        x.cut(1);
        x.put(3, 9, 12);
        x.tell(0, 8);
        x.tell(1, 9);
        x.tell(2, 20);
        x.tell(3, 60);
        x.shoot(3);
        x.forget(2);
        x.see(20, 7, 255);
    }

    private static void keepWhat() {
        SAYS.of(31, "IMAGE k (0, 1) is LAMPS (all of them), ROWS, DELAY, EXPOSE, PACE, TICK, SHOTS, the latest SHOT, what was SEEN:");
        for (int k = 0; k <= 1; k++) {
            RowShutter x = scene();
            x.keep(k);
            changeAll(x);
            x.back(k);
            SAYS.same("what image " + k + " keeps", Account.ofScene(x), Account.ofScene(scene()));
        }
        RowShutter empty = new RowShutter();
        empty.keep(1);
        changeAll(empty);
        empty.put(0, 1, 1);
        empty.back(1);
        SAYS.same("an image without a lamp", Account.ofScene(empty), Account.ofScene(new RowShutter()));
        RowShutter two = scene();
        two.keep(0);
        changeAll(two);
        two.keep(1);
        two.cut(0);
        two.back(0);
        SAYS.same("one of two", Account.ofScene(two), Account.ofScene(scene()));
        RowShutter changed = scene();
        changeAll(changed);
        two.back(1);
        SAYS.same("the other of two", Account.ofScene(two), Account.ofScene(changed));
        RowShutter twice = scene();
        twice.keep(0);
        changeAll(twice);
        twice.keep(0);
        twice.cut(0);
        twice.back(0);
        RowShutter again = scene();
        changeAll(again);
        SAYS.same("an image kept anew", Account.ofScene(twice), Account.ofScene(again));
    }

    private static void keepWhether() {
        SAYS.of(31, "whether there was one (1, 0).");
        RowShutter x = scene();
        SAYS.due("keep(0)", x.keep(0), 0);
        SAYS.due("keep(1)", x.keep(1), 0);
        SAYS.due("keep(0) again", x.keep(0), 1);
        SAYS.due("keep(1) again", x.keep(1), 1);
        x.back(0);
        SAYS.due("keep(0) behind back(0)", x.keep(0), 1);
        Check.text(x, "rows 9;");
        SAYS.due("keep(0) behind a text with a fault", x.keep(0), 1);
        Check.text(x, "rows 8;");
        SAYS.due("keep(0) behind a text", x.keep(0), 0);
        SAYS.of(31, "BAD.");
        for (int k : new int[] {-1, 2, MIN, MAX}) {
            SAYS.due("keep(" + k + ")", x.keep(k), RowShutter.BAD);
        }
        SAYS.due("count(1)", x.count(1), 1);
    }

    private static void back() {
        SAYS.of(32, "All is as IMAGE k: TICK.");
        RowShutter x = scene();
        x.keep(0);
        x.rest(60);
        x.keep(1);
        SAYS.due("back(0)", x.back(0), 19);
        SAYS.due("rule(2)", x.rule(2), 19);
        SAYS.due("back(1)", x.back(1), 79);
        SAYS.due("rule(2)", x.rule(2), 79);
        SAYS.due("back(0) again", x.back(0), 19);
        changeAll(x);
        SAYS.due("back(0) behind changes", x.back(0), 19);
        SAYS.same("all", Account.ofScene(x), Account.ofScene(scene()));
        RowShutter y = new RowShutter();
        y.keep(0);
        y.rest(9);
        SAYS.due("back(0) to tick 0", y.back(0), 0);
        Check.toTick(y, 99999);
        y.keep(1);
        y.back(0);
        SAYS.due("back(1) to tick 99999", y.back(1), 99999);
        RowShutter other = new RowShutter();
        other.keep(0);
        Check.text(other, "rows 9;");
        other.keep(0);
        other.sheet(0, 1, 3);
        other.read(0, 0, 0, 1);
        Check.feed(other, "rows");
        other.back(0);
        SAYS.due("THE TAPE is no part of an image", other.count(2), 4);
        SAYS.due("nor is the fault of a text", other.fault(), 3);
        SAYS.due("nor is a sheet", other.count(3), 3);
        SAYS.due("nor is what tore", other.torn(), 3);
    }

    private static void backRefuses() {
        SAYS.of(32, "BAD;");
        RowShutter x = scene();
        for (int k : new int[] {-1, 2, MIN, MAX}) {
            SAYS.due("back(" + k + ")", x.back(k), RowShutter.BAD);
        }
        SAYS.of(32, "STATE: there is none.");
        SAYS.due("back(0)", x.back(0), RowShutter.STATE);
        SAYS.due("back(1)", x.back(1), RowShutter.STATE);
        x.keep(0);
        SAYS.due("back(1) where 0 is kept", x.back(1), RowShutter.STATE);
        x.text();
        x.keep(1);
        SAYS.due("back(0) where 1 is kept, behind a text", x.back(0), RowShutter.STATE);
    }

    private static void sheet() {
        SAYS.of(33, "A SHEET is a new row of CELLS 0: 1.");
        for (int k = 0; k <= 3; k++) {
            for (int lane = 0; lane <= 2; lane++) {
                for (int n : new int[] {0, 1, 2, 39, 40}) {
                    RowShutter x = Check.told("saw 1 1 5;");
                    SAYS.due("sheet(" + k + ", " + lane + ", " + n + ")", x.sheet(k, lane, n), 1);
                    SAYS.due("pairs of zeros", x.read(k, lane, 0, n / 2), n / 2);
                    SAYS.due("lamp(0, 3)", x.lamp(0, 3), n < 2 ? 5 : 0);
                    SAYS.due("behind the last", x.lay(k, n, 0), -12);
                }
            }
        }
        RowShutter x = Check.told("saw 1 1 5;");
        x.sheet(2, 0, 40);
        for (int i = 0; i < 40; i++) {
            x.lay(2, i, 99);
        }
        x.sheet(2, 0, 40);
        SAYS.due("20 pairs of a new one", x.read(2, 0, 0, 20), 20);
        x.sheet(2, 1, 2);
        SAYS.due("a new one is of its lane", x.read(2, 0, 0, 1), 0);
        SAYS.due("torn()", x.torn(), 3);
        x.sheet(1, 2, 2);
        x.lay(1, 1, 7);
        x.sheet(2, 2, 2);
        SAYS.due("another stays", x.read(1, 2, 0, 1), 1);
        SAYS.due("lamp(0, 3)", x.lamp(0, 3), 7);
    }

    private static void sheetRefuses() {
        RowShutter x = new RowShutter();
        x.sheet(0, 1, 7);
        SAYS.of(33, "BAD: also n above 40;");
        for (int k : new int[] {-1, 4, MIN, MAX}) {
            SAYS.due("sheet(" + k + ", 0, 1)", x.sheet(k, 0, 1), RowShutter.BAD);
            SAYS.due("sheet(" + k + ", 0, -1)", x.sheet(k, 0, -1), RowShutter.BAD);
        }
        for (int lane : new int[] {-1, 3, MIN, MAX}) {
            SAYS.due("sheet(0, " + lane + ", 1)", x.sheet(0, lane, 1), RowShutter.BAD);
            SAYS.due("sheet(0, " + lane + ", -1)", x.sheet(0, lane, -1), RowShutter.BAD);
        }
        for (int n : new int[] {41, 42, MAX}) {
            SAYS.due("sheet(0, 0, " + n + ")", x.sheet(0, 0, n), RowShutter.BAD);
        }
        SAYS.due("count(3)", x.count(3), 7);
        SAYS.of(33, "-10 - 4.");
        for (int lane = 0; lane <= 2; lane++) {
            SAYS.due("sheet(0, " + lane + ", -1)", x.sheet(0, lane, -1), -14);
            SAYS.due("sheet(0, " + lane + ", MIN)", x.sheet(0, lane, MIN), -14);
        }
        SAYS.due("count(3)", x.count(3), 7);
        SAYS.due("sheet(1, 0, -1)", x.sheet(1, 0, -1), -14);
        SAYS.due("it is nothing still", x.lay(1, 0, 0), -11);
    }

    /** What a CELL has become is told by the PHASE that is read of it, or by its being none. */
    private static void laid(int lane, int v, int phase) {
        RowShutter x = Check.told("saw 1 1 5;");
        x.sheet(3, lane, 2);
        SAYS.due("lay(3, 1, " + v + ")", x.lay(3, 1, v), 1);
        SAYS.due("read of lane " + lane + " where " + v + " is laid", x.read(3, lane, 0, 1), phase < 0 ? -20 : 1);
        SAYS.due("lamp(0, 3)", x.lamp(0, 3), phase < 0 ? 5 : phase);
    }

    private static void lay() {
        SAYS.of(34, "CELL i of a SHEET becomes v (its lowest bits): 1.");
        int[][] bytes = {{0, 0}, {11, 11}, {12, -1}, {127, -1}, {128, -1}, {255, -1}, {256, 0}, {267, 11}, {-1, -1}, {-245, 11},
            {-256, 0}, {65536 + 3, 3}, {MIN, 0}, {MIN + 4, 4}, {MAX, -1}};
        int[][] shorts = {{0, 0}, {11, 11}, {12, -1}, {256, -1}, {267, -1}, {32767, -1}, {32768, -1}, {65535, -1}, {65536, 0},
            {65547, 11}, {-65536 + 6, 6}, {-1, -1}, {MIN, 0}, {MIN + 4, 4}, {MAX, -1}};
        int[][] ints = {{0, 0}, {11, 11}, {12, -1}, {256, -1}, {65536, -1}, {65547, -1}, {-1, -1}, {MIN, -1}, {MIN + 4, -1}, {MAX, -1}};
        int[][][] lanes = {bytes, shorts, ints};
        for (int lane = 0; lane <= 2; lane++) {
            for (int[] one : lanes[lane]) {
                laid(lane, one[0], one[1]);
            }
        }
        RowShutter x = Check.told("saw 1 1 5;");
        for (int i = 0; i < 40; i++) {
            x.sheet(0, 0, 40);
            SAYS.due("lay(0, " + i + ", 12)", x.lay(0, i, 12), 1);
            SAYS.due("the pair of which it is one", x.read(0, 0, i / 2 * 2, 1), -20);
            SAYS.due("those ahead", x.read(0, 0, 0, i / 2), i / 2);
        }
        RowShutter lamps = Check.told("saw 1 1 5;saw 1 1 5;");
        lamps.sheet(0, 0, 2);
        lamps.lay(0, 0, 256 + 1);
        SAYS.due("the lowest bits are a lamp", lamps.read(0, 0, 0, 1), 1);
        SAYS.due("lamp(1, 3)", lamps.lamp(1, 3), 0);
    }

    private static void layRefuses() {
        RowShutter x = new RowShutter();
        x.sheet(0, 0, 3);
        SAYS.of(34, "BAD: k;");
        for (int k : new int[] {-1, 4, MIN, MAX}) {
            SAYS.due("lay(" + k + ", 0, 0)", x.lay(k, 0, 0), RowShutter.BAD);
            SAYS.due("lay(" + k + ", -1, 0)", x.lay(k, -1, 0), RowShutter.BAD);
        }
        SAYS.of(34, "-10 less the FAULT: NULL, INDEX.");
        for (int k = 1; k <= 3; k++) {
            for (int i : new int[] {0, -1, 40, MIN, MAX}) {
                SAYS.due("lay(" + k + ", " + i + ", 0) on nothing", x.lay(k, i, 0), -11);
            }
        }
        for (int i : new int[] {-1, 3, 4, 40, MIN, MAX}) {
            SAYS.due("lay(0, " + i + ", 0) of 3", x.lay(0, i, 0), -12);
        }
        x.sheet(0, 0, 0);
        SAYS.due("lay(0, 0, 0) of none", x.lay(0, 0, 0), -12);
        SAYS.due("torn() is of read() alone", x.torn(), 0);
    }

    private static RowShutter paired(int lane, int... cells) {
        RowShutter x = Check.told("blink 1 1 1;saw 2 2 2;pair 3 3 3;");
        x.sheet(1, lane, cells.length);
        for (int i = 0; i < cells.length; i++) {
            x.lay(1, i, cells[i]);
        }
        return x;
    }

    private static void phasesAre(RowShutter x, int... phases) {
        for (int l = 0; l < phases.length; l++) {
            SAYS.due("lamp(" + l + ", 3)", x.lamp(l, 3), phases[l]);
        }
    }

    private static void readPairs() {
        SAYS.of(35, "n (0 to 20) times a LAMP, a PHASE are read of a SHEET taken as of a lane,");
        for (int lane = 0; lane <= 2; lane++) {
            for (int n = 0; n <= 20; n++) {
                RowShutter x = paired(lane);
                x.sheet(1, lane, 40);
                SAYS.due("read(1, " + lane + ", 0, " + n + ")", x.read(1, lane, 0, n), n);
                SAYS.due("torn()", x.torn(), 0);
                phasesAre(x, n == 0 ? 1 : 0, 2, 3);
            }
        }
        SAYS.of(35, "two CELLS each from CELL f on,");
        for (int lane = 0; lane <= 2; lane++) {
            RowShutter x = paired(lane, 0, 1, 2, 10, 1, 9);
            SAYS.due("read from 4", x.read(1, lane, 4, 1), 1);
            phasesAre(x, 1, 9, 3);
            SAYS.due("read from 1", x.read(1, lane, 1, 1), 1);
            phasesAre(x, 1, 2, 3);
            SAYS.due("read from 3", x.read(1, lane, 3, 1), -20);
            SAYS.due("read from 2", x.read(1, lane, 2, 2), 2);
            phasesAre(x, 1, 9, 10);
        }
        SAYS.of(35, "one behind another as by alter() of its PHASE: how many came.");
        RowShutter x = paired(0, 0, 11, 0, 4, 2, 0, 0, 6);
        SAYS.due("read(1, 0, 0, 4)", x.read(1, 0, 0, 4), 4);
        phasesAre(x, 6, 2, 0);
        SAYS.due("read(1, 0, 0, 1)", x.read(1, 0, 0, 1), 1);
        phasesAre(x, 11, 2, 0);
        SAYS.due("what it gives then", x.lamp(2, 4), 3);
        SAYS.due("read(1, 0, 0, 0)", x.read(1, 0, 0, 0), 0);
        phasesAre(x, 11, 2, 0);
    }

    private static void tears(RowShutter x, int k, int lane, int f, int n, int came, int fault) {
        SAYS.due("read(" + k + ", " + lane + ", " + f + ", " + n + ")", x.read(k, lane, f, n), came);
        SAYS.due("torn()", x.torn(), fault);
    }

    private static void readTorn() {
        SAYS.of(35, "What the machine refuses: those that were whole ahead came (its FAULT is asked by torn()).");
        for (int cells = 0; cells <= 6; cells++) {
            for (int n = 0; n <= 4; n++) {
                int[] all = {0, 7, 1, 8, 2, 9};
                RowShutter x = paired(2, java.util.Arrays.copyOf(all, cells));
                int whole = Math.min(n, cells / 2);
                tears(x, 1, 2, 0, n, whole, n > cells / 2 ? 2 : 0);
                phasesAre(x, whole > 0 ? 7 : 1, whole > 1 ? 8 : 2, whole > 2 ? 9 : 3);
            }
        }
        RowShutter x = paired(0, 0, 7, 1, 8);
        for (int f : new int[] {-1, -2, -40, 3, 4, 5, 40, MIN, MIN + 1, MAX, MAX - 1}) {
            tears(x, 1, 0, f, 1, 0, 2);
            tears(x, 1, 0, f, 20, 0, 2);
        }
        phasesAre(x, 1, 2, 3);
        tears(x, 1, 1, 0, 2, 0, 3);
        tears(x, 1, 2, 0, 2, 0, 3);
        tears(x, 1, 2, -1, 2, 0, 3);
        tears(x, 0, 0, 0, 2, 0, 1);
        tears(x, 0, 2, MIN, 2, 0, 1);
        phasesAre(x, 1, 2, 3);
        x.sheet(1, 0, 0);
        tears(x, 1, 0, 0, 1, 0, 2);
        tears(x, 1, 1, 0, 1, 0, 3);
        tears(x, 1, 1, 0, 0, 0, 0);
    }

    private static void readBad() {
        SAYS.of(35, "BAD: k, lane, n;");
        RowShutter x = paired(0, 0, 7);
        for (int k : new int[] {-1, 4, MIN, MAX}) {
            SAYS.due("read(" + k + ", 0, 0, 1)", x.read(k, 0, 0, 1), RowShutter.BAD);
        }
        for (int lane : new int[] {-1, 3, MIN, MAX}) {
            SAYS.due("read(1, " + lane + ", 0, 1)", x.read(1, lane, 0, 1), RowShutter.BAD);
            SAYS.due("read(0, " + lane + ", 0, 0)", x.read(0, lane, 0, 0), RowShutter.BAD);
        }
        for (int n : new int[] {-1, 21, MIN, MAX}) {
            SAYS.due("read(1, 0, 0, " + n + ")", x.read(1, 0, 0, n), RowShutter.BAD);
            SAYS.due("read(0, 0, 0, " + n + ")", x.read(0, 0, 0, n), RowShutter.BAD);
        }
        phasesAre(x, 1, 2, 3);
    }

    private static void readRefused() {
        SAYS.of(35, "-20 less i: the i-th, whole, is refused by alter(): then none came;");
        for (int i = 0; i < 20; i++) {
            RowShutter x = paired(0);
            x.sheet(1, 0, 40);
            x.lay(1, 2 * i + 1, 12);
            SAYS.due("pair " + i + " has no phase", x.read(1, 0, 0, 20), -20 - i);
            phasesAre(x, 1, 2, 3);
            x.lay(1, 2 * i + 1, 11);
            x.lay(1, 2 * i, 3);
            SAYS.due("pair " + i + " has no lamp", x.read(1, 0, 0, 20), -20 - i);
            phasesAre(x, 1, 2, 3);
            SAYS.due("those ahead of pair " + i, x.read(1, 0, 0, i), i);
        }
        int[][] pairs = {{-1, 0}, {3, 0}, {4, 0}, {0, -1}, {0, 12}, {MIN, 0}, {0, MAX}, {3, 12}};
        for (int[] pair : pairs) {
            RowShutter x = paired(2, pair);
            SAYS.due("lamp " + pair[0] + ", phase " + pair[1], x.read(1, 2, 0, 1), -20);
            phasesAre(x, 1, 2, 3);
        }
        RowShutter cut = paired(2, 2, 11);
        SAYS.due("the last lamp", cut.read(1, 2, 0, 1), 1);
        cut.cut(2);
        SAYS.due("where it was cut", cut.read(1, 2, 0, 1), -20);
        cut.cut(0);
        SAYS.due("without a lamp", cut.read(1, 2, 0, 1), -20);
    }

    private static void readTheFirstMet() {
        SAYS.of(35, "the first met.");
        SAYS.due("two that are refused", paired(0, 0, 7, 9, 9, 8, 8).read(1, 0, 0, 3), -21);
        RowShutter x = paired(0, 9, 9, 1);
        SAYS.due("refused ahead of a fault", x.read(1, 0, 0, 2), -20);
        phasesAre(x, 1, 2, 3);
        RowShutter y = paired(0, 1, 7, 9);
        SAYS.due("a fault ahead of what would be refused", y.read(1, 0, 0, 2), 1);
        SAYS.due("torn()", y.torn(), 2);
        phasesAre(y, 1, 7, 3);
        SAYS.due("a lane ahead of what would be refused", paired(0, 9, 9).read(1, 1, 0, 1), 0);
        RowShutter early = paired(0, 9, 9, 1, 7);
        SAYS.due("a cell below 0 ahead of what would be refused", early.read(1, 0, -2, 2), 0);
        SAYS.due("torn()", early.torn(), 2);
        phasesAre(early, 1, 2, 3);
    }

    private static void torn() {
        SAYS.of(36, "The FAULT of the latest read() that came to an end;");
        RowShutter x = paired(0, 0, 7, 9, 9);
        tears(x, 0, 0, 0, 1, 0, 1);
        SAYS.due("asked again", x.torn(), 1);
        tears(x, 1, 0, 3, 1, 0, 2);
        tears(x, 1, 1, 0, 1, 0, 3);
        SAYS.due("one that is refused", x.read(1, 0, 0, 2), -21);
        SAYS.due("torn() behind it", x.torn(), 3);
        SAYS.due("one that is bad", x.read(1, 0, 0, 21), RowShutter.BAD);
        SAYS.due("torn() behind it", x.torn(), 3);
        x.lay(3, 0, 0);
        x.sheet(3, 0, -1);
        x.keep(0);
        x.back(0);
        x.text();
        SAYS.due("torn() behind other calls", x.torn(), 3);
        SAYS.of(36, "0.");
        SAYS.due("of none", new RowShutter().torn(), 0);
        RowShutter y = paired(0, 0, 7, 9, 9);
        tears(y, 1, 1, 0, 1, 0, 3);
        tears(y, 1, 0, 0, 1, 1, 0);
        tears(y, 1, 1, 0, 1, 0, 3);
        tears(y, 1, 1, 0, 0, 0, 0);
        tears(y, 0, 1, 0, 1, 0, 1);
        tears(y, 0, 1, 0, 0, 0, 0);
    }

    private static void count() {
        SAYS.of(37, "How many: 0 SEEN");
        RowShutter x = new RowShutter();
        for (int i = 0; i <= 6; i++) {
            SAYS.due("count(0)", x.count(0), i);
            x.see(0, 0, 0);
        }
        SAYS.due("count(0), no more", x.count(0), 6);
        SAYS.of(37, "1 IMAGES");
        SAYS.due("count(1)", x.count(1), 0);
        x.keep(1);
        SAYS.due("count(1) of image 1", x.count(1), 1);
        x.keep(1);
        SAYS.due("count(1) of image 1, kept twice", x.count(1), 1);
        x.keep(0);
        SAYS.due("count(1) of both", x.count(1), 2);
        SAYS.of(37, "2 bytes on THE TAPE");
        for (int i = 0; i <= 160; i++) {
            SAYS.due("count(2)", x.count(2), i);
            x.feed(' ');
        }
        SAYS.due("count(2), no more", x.count(2), 160);
        SAYS.of(37, "3 CELLS of SHEET 0 (NONE: nothing)");
        SAYS.due("count(3)", x.count(3), RowShutter.NONE);
        x.sheet(1, 0, 9);
        SAYS.due("count(3) where another is there", x.count(3), RowShutter.NONE);
        for (int n : new int[] {0, 1, 40}) {
            x.sheet(0, n % 3, n);
            SAYS.due("count(3)", x.count(3), n);
        }
        SAYS.of(37, "4 LIGHTS of all, 5 PERIODS of all.");
        SAYS.due("count(4) without a lamp", x.count(4), 0);
        SAYS.due("count(5) without a lamp", x.count(5), 0);
        for (int l = 1; l <= 4; l++) {
            x.put(0, 9, 12);
            SAYS.due("count(4)", x.count(4), 9 * l);
            SAYS.due("count(5)", x.count(5), 12 * l);
        }
        x.cut(1);
        SAYS.due("count(4) behind cut(1)", x.count(4), 9);
        SAYS.due("count(5) behind cut(1)", x.count(5), 12);
        SAYS.of(37, "BAD.");
        for (int what : new int[] {-1, 6, MIN, MAX}) {
            SAYS.due("count(" + what + ")", x.count(what), RowShutter.BAD);
        }
    }
}
