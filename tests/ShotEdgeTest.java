/** Promises 14 to 18, sentence by sentence, at their edges. */
public final class ShotEdgeTest {
    private static final Sentences SAYS = new Sentences("ShotEdgeTest", 14, 18);
    private static final int MIN = Integer.MIN_VALUE, MAX = Integer.MAX_VALUE;
    /** SHOT n begins at stand 2 + n by 9; its BANDS are 1, but 8 at stand 8: at SHOT 6, 15, .. */
    private static final String SAW = "saw 9 9 2;rows 2;delay 1;expose 1;pace 1;";
    /** SHOT 39 is the first of its greatest BANDS. */
    private static final String GREATEST_LAST = "saw 4 10 2;pair 7 11 8;rows 3;delay 1;expose 2;pace 3;";
    /** SHOT 39 is the first of its least BANDS. */
    private static final String LEAST_LAST = "saw 6 11 6;saw 3 7 5;rows 2;delay 2;expose 5;pace 30;";
    /** A round of 132 ticks: the BANDS are 18 behind its ticks 5 and 131, else 9 at most. */
    private static final String ROUND = "blink 9 11 0;blink 9 12 0;rows 2;delay 1;expose 1;pace 1;";

    public static void main(String[] args) {
        shoot();
        shootRefuses();
        shootFull();
        runsGreatest();
        runsLeast();
        runsSummed();
        runsFullRows();
        runsRefuses();
        ahead();
        aheadRefuses();
        when();
        whenRefuses();
        again();
        againNone();
        sawByCalls();
        SAYS.finish();
    }

    private static RowShutter at(String text, int tick) {
        RowShutter x = Check.told(text);
        Check.toTick(x, tick);
        return x;
    }

    private static void shoot() {
        SAYS.of(14, "n SHOTS (0 to 40): the greatest BANDS of them (0).");
        for (int n = 0; n <= 40; n++) {
            RowShutter x = Check.told(SAW);
            SAYS.due("shoot(" + n + ")", x.shoot(n), n == 0 ? 0 : n < 7 ? 1 : 8);
            SAYS.due("SHOTS", x.rule(1), n);
            SAYS.due("TICK", x.rule(2), n);
            SAYS.due("row(0)", x.row(0), n == 0 ? RowShutter.STATE : (2 + n - 1) % 9);
            SAYS.due("row(1)", x.row(1), n == 0 ? RowShutter.STATE : (2 + n) % 9);
        }
        SAYS.due("shoot(39)", Check.told(GREATEST_LAST).shoot(39), 10);
        SAYS.due("shoot(40)", Check.told(GREATEST_LAST).shoot(40), 11);
        RowShutter x = Check.told(SAW);
        x.shoot(3);
        SAYS.due("shoot(0)", x.shoot(0), 0);
        SAYS.due("row(0) is of the third still", x.row(0), 4);
        SAYS.due("SHOTS", x.rule(1), 3);
    }

    private static void shootRefuses() {
        SAYS.of(14, "BAD;");
        for (int n : new int[] {-1, 41, MIN, MAX}) {
            RowShutter x = Check.told(SAW);
            SAYS.due("shoot(" + n + ")", x.shoot(n), RowShutter.BAD);
            SAYS.same("all", Account.of(x), Account.of(Check.told(SAW)));
        }
    }

    private static void shootFull() {
        SAYS.of(14, "FULL: TICK would be 100000 or more.");
        String text = "saw 9 9 2;rows 1;expose 1;pace 50;";
        RowShutter x = at(text, 98000);
        int shots = x.rule(1);
        SAYS.due("shoot(40) to 100000", x.shoot(40), RowShutter.FULL);
        SAYS.due("TICK", x.rule(2), 98000);
        SAYS.due("SHOTS", x.rule(1), shots);
        SAYS.due("shoot(39) to 99950", x.shoot(39), 0);
        SAYS.due("TICK", x.rule(2), 99950);
        int row = x.row(0);
        SAYS.due("shoot(1) to 100000", x.shoot(1), RowShutter.FULL);
        SAYS.due("row(0)", x.row(0), row);
        x.tell(3, 49);
        SAYS.due("shoot(1) to 99999", x.shoot(1), 0);
        SAYS.due("TICK", x.rule(2), 99999);
        SAYS.due("SHOTS", x.rule(1), shots + 40);
        x.tell(3, 1);
        SAYS.due("shoot(1) at 99999", x.shoot(1), RowShutter.FULL);
        SAYS.due("shoot(0) at 99999", x.shoot(0), 0);
        RowShutter most = at("saw 9 9 2;pace 40;", 98399);
        SAYS.due("shoot(40) to 99999", most.shoot(40) >= 0 ? 1 : 0, 1);
        SAYS.due("TICK", most.rule(2), 99999);
    }

    private static void runsGreatest() {
        SAYS.of(15, "BY SHOTS, n of them (0 to 40): the greatest BANDS (what 0; 0)");
        RowShutter x = Check.told(SAW);
        for (int n = 0; n <= 40; n++) {
            SAYS.due("runs(" + n + ", 0)", x.runs(n, 0), n == 0 ? 0 : n < 7 ? 1 : 8);
        }
        SAYS.due("runs(39, 0)", Check.told(GREATEST_LAST).runs(39, 0), 10);
        SAYS.due("runs(40, 0)", Check.told(GREATEST_LAST).runs(40, 0), 11);
        SAYS.due("runs(40, 0), where SHOT 40 has 18", at(ROUND, 91).runs(40, 0), 9);
        SAYS.due("runs(40, 0), where SHOT 39 has 18", at(ROUND, 92).runs(40, 0), 18);
        RowShutter last = at(SAW, 99999);
        SAYS.due("runs(40, 0) at the last tick", last.runs(40, 0), 8);
        SAYS.due("TICK", last.rule(2), 99999);
    }

    private static void runsLeast() {
        SAYS.of(15, "the least (1; NONE: none)");
        RowShutter x = Check.told("saw 9 9 8;rows 2;delay 1;expose 1;pace 1;");
        SAYS.due("runs(0, 1)", x.runs(0, 1), RowShutter.NONE);
        SAYS.due("runs(1, 1)", x.runs(1, 1), 8);
        SAYS.due("runs(2, 1)", x.runs(2, 1), 1);
        SAYS.due("runs(39, 1)", Check.told(LEAST_LAST).runs(39, 1), 1);
        SAYS.due("runs(40, 1)", Check.told(LEAST_LAST).runs(40, 1), 0);
        SAYS.due("runs(0, 1) without a lamp", new RowShutter().runs(0, 1), RowShutter.NONE);
        SAYS.due("runs(1, 1) without a lamp", new RowShutter().runs(1, 1), 0);
        String four = "blink 9 12 0;blink 9 12 0;blink 9 12 0;blink 9 12 0;rows 2;delay 6;expose 6;pace 60;";
        SAYS.due("runs(40, 1) where all are 216", Check.told(four).runs(40, 1), 216);
    }

    private static void runsSummed() {
        SAYS.of(15, "how BRIGHT all ROWS are, summed (2)");
        RowShutter x = Check.told(SAW);
        int sum = 0;
        for (int n = 0; n <= 40; n++) {
            SAYS.due("runs(" + n + ", 2)", x.runs(n, 2), sum);
            sum += (2 + n) % 9 + (3 + n) % 9;
        }
        String full = "steady 9 1 0;steady 9 1 0;steady 9 1 0;steady 9 1 0;rows 8;expose 20;";
        SAYS.due("runs(40, 2) where all are full", Check.told(full).runs(40, 2), 40 * 8 * 255);
        SAYS.due("runs(40, 2) without a lamp", new RowShutter().runs(40, 2), 0);
    }

    private static void runsFullRows() {
        SAYS.of(15, "how many ROWS are 255 BRIGHT (3).");
        String fifteen = "steady 9 1 0;steady 6 1 0;";
        for (int n = 0; n <= 40; n++) {
            SAYS.due("runs(" + n + ", 3) of 8 rows", Check.told(fifteen + "rows 8;expose 17;").runs(n, 3), 8 * n);
        }
        SAYS.due("of 240", Check.told(fifteen + "expose 16;").runs(40, 3), 0);
        SAYS.due("of 270, told as 255", Check.told(fifteen + "expose 18;").runs(1, 3), 4);
        // 195 in 13 ticks; 7 times 9 more is 258, 6 times 9 more is 249: every other row is full
        RowShutter some = Check.told(fifteen + "blink 9 2 0;rows 8;delay 1;expose 13;");
        SAYS.due("of every other row", some.runs(10, 3), 40);
        some.shoot(3);
        SAYS.due("of every other row, some shots on", some.runs(10, 3), 40);
        SAYS.due("without a lamp", new RowShutter().runs(40, 3), 0);
    }

    private static void runsRefuses() {
        SAYS.of(15, "BAD.");
        RowShutter x = Check.told(SAW);
        for (int what = 0; what <= 3; what++) {
            for (int n : new int[] {-1, 41, MIN, MAX}) {
                SAYS.due("runs(" + n + ", " + what + ")", x.runs(n, what), RowShutter.BAD);
            }
        }
        for (int what : new int[] {-1, 4, MIN, MAX}) {
            SAYS.due("runs(1, " + what + ")", x.runs(1, what), RowShutter.BAD);
            SAYS.due("runs(0, " + what + ")", x.runs(0, what), RowShutter.BAD);
        }
    }

    private static void ahead() {
        SAYS.of(16, "BY SHOTS: how BRIGHT a ROW is in SHOT n (0 to 40).");
        RowShutter x = Check.told("saw 9 9 2;rows 8;delay 1;expose 1;pace 4;");
        x.shoot(1);
        for (int n = 0; n <= 40; n++) {
            for (int r = 0; r <= 7; r++) {
                SAYS.due("ahead(" + n + ", " + r + ")", x.ahead(n, r), (2 + 4 * (n + 1) + r) % 9);
            }
        }
        RowShutter last = at("saw 9 9 2;rows 8;delay 9;expose 1;pace 60;", 99999);
        SAYS.due("ahead(40, 7) at the last tick", last.ahead(40, 7), (2 + 99999 + 2400 + 63) % 9);
        RowShutter full = Check.told("steady 9 1 0;steady 9 1 0;steady 9 1 0;steady 9 1 0;rows 8;expose 20;");
        SAYS.due("ahead(40, 7) of a full row", full.ahead(40, 7), 255);
        SAYS.due("ahead(40, 3) without a lamp", new RowShutter().ahead(40, 3), 0);
    }

    private static void aheadRefuses() {
        SAYS.of(16, "BAD (also ROWS that there are not).");
        for (int rows = 1; rows <= 8; rows++) {
            RowShutter x = Check.told("steady 1 1 0;rows " + rows + ";");
            SAYS.due("ahead(0, " + (rows - 1) + ") of " + rows, x.ahead(0, rows - 1), 4);
            for (int r = rows; r <= 8; r++) {
                SAYS.due("ahead(0, " + r + ") of " + rows, x.ahead(0, r), RowShutter.BAD);
            }
        }
        RowShutter x = Check.told(SAW);
        for (int v : new int[] {-1, 41, MIN, MAX}) {
            SAYS.due("ahead(" + v + ", 0)", x.ahead(v, 0), RowShutter.BAD);
            SAYS.due("ahead(0, " + v + ")", x.ahead(0, v), RowShutter.BAD);
        }
    }

    private static void when() {
        SAYS.of(17, "BY SHOTS: the first SHOT (0 to 40) with BANDS of b (0 to 255) or more.");
        RowShutter x = Check.told(SAW);
        SAYS.due("when(0)", x.when(0), 0);
        SAYS.due("when(1)", x.when(1), 0);
        for (int b = 2; b <= 8; b++) {
            SAYS.due("when(" + b + ")", x.when(b), 6);
        }
        x.shoot(7);
        SAYS.due("when(8) behind it", x.when(8), 8);
        SAYS.due("when(18), where SHOT 40 is the first", at(ROUND, 91).when(18), 40);
        SAYS.due("when(18), where SHOT 39 is the first", at(ROUND, 92).when(18), 39);
        SAYS.due("when(18), where it is this one", at(ROUND, 131).when(18), 0);
        String four = "blink 9 12 0;blink 9 12 0;blink 9 12 0;blink 9 12 0;rows 2;delay 6;expose 6;";
        SAYS.due("when(216)", Check.told(four).when(216), 0);
        SAYS.due("when(0) without a lamp", new RowShutter().when(0), 0);
        SAYS.due("when(8) at the last tick", at(SAW, 99999).when(8), 6);
    }

    private static void whenRefuses() {
        SAYS.of(17, "BAD;");
        for (int b : new int[] {-1, 256, MIN, MAX}) {
            SAYS.due("when(" + b + ")", Check.told(SAW).when(b), RowShutter.BAD);
        }
        SAYS.of(17, "NONE: none.");
        SAYS.due("when(9)", Check.told(SAW).when(9), RowShutter.NONE);
        SAYS.due("when(255)", Check.told(SAW).when(255), RowShutter.NONE);
        SAYS.due("when(18), where SHOT 41 is the first", at(ROUND, 90).when(18), RowShutter.NONE);
        SAYS.due("when(1) without a lamp", new RowShutter().when(1), RowShutter.NONE);
        SAYS.due("when(1) of one row", Check.told("saw 9 9 2;rows 1;").when(1), RowShutter.NONE);
    }

    private static void again() {
        SAYS.of(18, "BY SHOTS: the first SHOT (1 to 40) of which all ROWS are as BRIGHT as of SHOT 0.");
        for (int period = 1; period <= 12; period++) {
            String text = "saw 9 " + period + " 0;rows 8;delay 1;expose 1;pace 1;";
            SAYS.due("by a period of " + period, Check.told(text).again(), period);
        }
        SAYS.due("by periods of 8 and 5", Check.told("saw 9 8 0;saw 9 5 0;rows 8;delay 1;expose 1;pace 1;").again(), 40);
        SAYS.due("at a pace of 60", Check.told("saw 9 8 0;saw 9 5 0;rows 8;delay 1;expose 1;pace 60;").again(), 2);
        SAYS.due("without a lamp", new RowShutter().again(), 1);
        // light, light, dark: row 0 is alike at once, row 1 not before a round
        SAYS.due("of one row", Check.told("blink 4 3 0;rows 1;expose 1;pace 1;").again(), 1);
        SAYS.due("of two rows", Check.told("blink 4 3 0;rows 2;delay 1;expose 1;pace 1;").again(), 3);
        SAYS.due("at the last tick", at("saw 9 8 0;saw 9 5 0;rows 8;delay 1;expose 1;pace 1;", 99999).again(), 40);
    }

    private static void againNone() {
        SAYS.of(18, "NONE: none.");
        SAYS.due("by periods of 9 and 5", Check.told("saw 9 9 0;saw 9 5 0;rows 8;delay 1;expose 1;pace 1;").again(), RowShutter.NONE);
        // 6 and 7: SHOT 42 is the first
        SAYS.due("by periods of 6 and 7", Check.told("saw 9 6 0;saw 9 7 0;rows 8;delay 1;expose 1;pace 1;").again(), RowShutter.NONE);
        SAYS.due("by periods of 7, 11 and 12", Check.told("saw 9 7 0;saw 9 11 0;saw 9 12 0;rows 8;delay 1;expose 1;pace 1;").again(), RowShutter.NONE);
    }

    /** SAW, made of an object that has been told no text. */
    private static RowShutter saw() {
        RowShutter x = new RowShutter();
        x.put(2, 9, 9);
        x.alter(0, 3, 2);
        int[] rules = {2, 1, 1, 1};
        for (int what = 0; what < 4; what++) {
            x.tell(what, rules[what]);
        }
        return x;
    }

    /** What the calls answer is of how all is now, not of what a text told. */
    private static void sawByCalls() {
        SAYS.of(14, "the greatest BANDS of them");
        SAYS.due("shoot(6)", saw().shoot(6), 1);
        SAYS.due("shoot(7)", saw().shoot(7), 8);
        SAYS.of(15, "BY SHOTS");
        SAYS.due("runs(7, 0)", saw().runs(7, 0), 8);
        SAYS.due("runs(7, 1)", saw().runs(7, 1), 1);
        SAYS.due("runs(2, 2)", saw().runs(2, 2), 2 + 3 + 3 + 4);
        RowShutter full = saw();
        full.put(0, 9, 1);
        full.put(0, 9, 1);
        full.tell(2, 20);
        SAYS.due("runs(2, 3)", full.runs(2, 3), 4);
        SAYS.of(16, "BY SHOTS");
        SAYS.due("ahead(4, 1)", saw().ahead(4, 1), 7);
        SAYS.of(17, "BY SHOTS");
        SAYS.due("when(8)", saw().when(8), 6);
        SAYS.of(18, "BY SHOTS");
        SAYS.due("again()", saw().again(), 9);
    }
}
