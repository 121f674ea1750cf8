/** Promises 14 to 18: shots, taken and ahead. */
public final class ShotTest {
    private static final Check CHECK = new Check("ShotTest");
    /** Its SHOTS 0, 1, 2, .. begin at stands 0, 3, 2, 1, 0, ..; light at stands 0 and 1 of 4. */
    private static final String BLINK = "blink 4 4 0; rows 2; delay 2; expose 2; pace 3;";
    /** One tick a ROW: ROW r of SHOT n is (r + 5 n) modulo 6 bright. */
    private static final String SAW = "saw 6 6 0; rows 3; delay 1; expose 1; pace 5;";

    public static void main(String[] args) {
        shoot();
        shootUpToTheLimit();
        runs();
        ahead();
        when();
        again();
        CHECK.finish();
    }

    private static void shoot() {
        RowShutter x = Check.told(BLINK);
        CHECK.due("shoot(-1)", x.shoot(-1), RowShutter.BAD);
        CHECK.due("shoot(41)", x.shoot(41), RowShutter.BAD);
        CHECK.due("shoot(0)", x.shoot(0), 0);
        CHECK.due("TICK", x.rule(2), 0);
        CHECK.due("shoot(1)", x.shoot(1), 8);
        CHECK.due("row(0)", x.row(0), 8);
        CHECK.due("row(1)", x.row(1), 0);
        CHECK.due("TICK", x.rule(2), 3);
        CHECK.due("SHOTS", x.rule(1), 1);
        CHECK.due("shoot(1)", x.shoot(1), 0);
        CHECK.due("row(0)", x.row(0), 4);
        CHECK.due("row(1)", x.row(1), 4);
        CHECK.due("shoot(2)", x.shoot(2), 8);
        CHECK.due("row(0)", x.row(0), 4);
        CHECK.due("TICK", x.rule(2), 12);
        CHECK.due("SHOTS", x.rule(1), 4);
        CHECK.due("shoot(40)", x.shoot(40), 8);
        CHECK.due("TICK", x.rule(2), 132);
        CHECK.due("SHOTS", x.rule(1), 44);
    }

    private static void shootUpToTheLimit() {
        RowShutter x = Check.told("pace 60;");
        for (int i = 0; i < 41; i++) {
            CHECK.due("shoot(40)", x.shoot(40), 0);
        }
        CHECK.due("TICK", x.rule(2), 98400);
        CHECK.due("shoot(27)", x.shoot(27), RowShutter.FULL);
        CHECK.due("TICK", x.rule(2), 98400);
        CHECK.due("SHOTS", x.rule(1), 1640);
        x.rest(40);
        CHECK.due("shoot(26) to 100000", x.shoot(26), RowShutter.FULL);
        x.tell(3, 1);
        x.shoot(19);
        x.tell(3, 60);
        CHECK.due("TICK", x.rule(2), 98459);
        CHECK.due("shoot(25) to 99959", x.shoot(25), 0);
        x.tell(3, 40);
        CHECK.due("shoot(1) to 99999", x.shoot(1), 0);
        CHECK.due("TICK", x.rule(2), 99999);
        CHECK.due("shoot(1)", x.shoot(1), RowShutter.FULL);
        CHECK.due("shoot(0)", x.shoot(0), 0);
        CHECK.due("shots ahead have no limit", x.runs(40, 2), 0);
    }

    private static void runs() {
        RowShutter x = Check.told(BLINK);
        CHECK.due("runs(0, 0)", x.runs(0, 0), 0);
        CHECK.due("runs(0, 1)", x.runs(0, 1), RowShutter.NONE);
        CHECK.due("runs(0, 2)", x.runs(0, 2), 0);
        CHECK.due("runs(0, 3)", x.runs(0, 3), 0);
        CHECK.due("runs(1, 1)", x.runs(1, 1), 8);
        CHECK.due("runs(2, 1)", x.runs(2, 1), 0);
        CHECK.due("runs(2, 0)", x.runs(2, 0), 8);
        CHECK.due("runs(40, 2)", x.runs(40, 2), 320);
        CHECK.due("runs(41, 0)", x.runs(41, 0), RowShutter.BAD);
        CHECK.due("runs(-1, 0)", x.runs(-1, 0), RowShutter.BAD);
        CHECK.due("runs(0, -1)", x.runs(0, -1), RowShutter.BAD);
        CHECK.due("runs(0, 4)", x.runs(0, 4), RowShutter.BAD);
        CHECK.due("TICK", x.rule(2), 0);
        RowShutter bright = Check.told("steady 9 1 0; steady 4 1 0; blink 9 2 0; rows 2; delay 1; expose 19; pace 2;");
        // 13 in each of 19 ticks are 247; the blink one adds 90 or 81: both rows are full
        CHECK.due("full rows", bright.runs(3, 3), 6);
        CHECK.due("full rows summed", bright.runs(3, 2), 6 * 255);
        CHECK.due("full rows have no bands", bright.runs(3, 0), 0);
        bright.alter(2, 1, 1);
        // 10 or 9 more: 257 is told as 255, 256 as 255
        CHECK.due("full rows", bright.runs(1, 3), 2);
        bright.alter(0, 1, 8);
        // 228 and 10 or 9
        CHECK.due("no full rows", bright.runs(1, 3), 0);
        CHECK.due("bands", bright.runs(1, 0), 1);
        bright.tell(2, 17);
        bright.alter(0, 1, 9);
        bright.alter(2, 1, 4);
        // 13 in each of 17 ticks are 221; 9 or 8 times 4 more: 257 and 253
        CHECK.due("one full row of two", bright.runs(1, 3), 1);
        CHECK.due("bands", bright.runs(1, 0), 2);
        bright.tell(2, 20);
        bright.alter(1, 1, 2);
        bright.alter(2, 1, 1);
        bright.alter(2, 0, 0);
        // 9, 2 and 1 in 20 ticks are 240
        CHECK.due("240 is not full", bright.runs(1, 3), 0);
        bright.tell(2, 17);
        bright.alter(1, 1, 5);
        // 15 in each of 17 ticks are just 255
        CHECK.due("255 is full", bright.runs(1, 3), 2);
    }

    private static void ahead() {
        RowShutter x = Check.told(SAW);
        for (int n = 0; n <= 40; n++) {
            for (int r = 0; r < 3; r++) {
                CHECK.due("ahead(" + n + ", " + r + ")", x.ahead(n, r), (r + 5 * n) % 6);
            }
        }
        CHECK.due("ahead(0, 3)", x.ahead(0, 3), RowShutter.BAD);
        CHECK.due("ahead(0, -1)", x.ahead(0, -1), RowShutter.BAD);
        CHECK.due("ahead(41, 0)", x.ahead(41, 0), RowShutter.BAD);
        CHECK.due("ahead(-1, 0)", x.ahead(-1, 0), RowShutter.BAD);
        x.shoot(1);
        CHECK.due("ahead(0, 0) behind a shot", x.ahead(0, 0), 5);
    }

    private static void when() {
        RowShutter x = Check.told(SAW);
        // bands: 2 at stands 0 to 3, 5 at stands 4 and 5
        CHECK.due("when(0)", x.when(0), 0);
        CHECK.due("when(2)", x.when(2), 0);
        CHECK.due("when(3)", x.when(3), 1);
        CHECK.due("when(5)", x.when(5), 1);
        CHECK.due("when(6)", x.when(6), RowShutter.NONE);
        CHECK.due("when(255)", x.when(255), RowShutter.NONE);
        CHECK.due("when(256)", x.when(256), RowShutter.BAD);
        CHECK.due("when(-1)", x.when(-1), RowShutter.BAD);
        CHECK.due("when(0) without a lamp", new RowShutter().when(0), 0);
        CHECK.due("when(1) without a lamp", new RowShutter().when(1), RowShutter.NONE);
        whenAtTheLast();
    }

    /** Two lamps whose common round is 132 ticks: they fall at once behind tick 5 of it, rise at once behind 131. */
    private static void whenAtTheLast() {
        RowShutter x = Check.told("blink 9 11 0; blink 9 12 0; rows 2; delay 1; expose 1; pace 1;");
        CHECK.due("when(18) at 0", x.when(18), 5);
        x.rest(60);
        x.rest(31);
        CHECK.due("when(18) at 91", x.when(18), 40);
        x.alter(0, 3, 10);
        CHECK.due("when(18) by another phase", x.when(18), RowShutter.NONE);
        RowShutter y = Check.told("blink 9 11 0; blink 9 12 0; rows 2; delay 1; expose 1; pace 1;");
        y.rest(60);
        y.rest(30);
        CHECK.due("when(18) at 90: SHOT 41 is too far", y.when(18), RowShutter.NONE);
    }

    private static void again() {
        RowShutter x = Check.told(SAW);
        CHECK.due("again()", x.again(), 6);
        x.tell(3, 3);
        CHECK.due("again() at a pace of 3", x.again(), 2);
        x.tell(3, 6);
        CHECK.due("again() at a pace of 6", x.again(), 1);
        CHECK.due("again() without a lamp", new RowShutter().again(), 1);
        RowShutter far = Check.told("saw 9 9 0; saw 9 5 0; rows 8; delay 1; expose 1; pace 1;");
        CHECK.due("again() behind 45", far.again(), RowShutter.NONE);
        far.alter(0, 2, 8);
        CHECK.due("again() at the last", far.again(), 40);
        RowShutter oneRow = Check.told("blink 4 4 0; rows 1; expose 1; pace 1;");
        CHECK.due("again() of one row", oneRow.again(), 1);
        oneRow.tell(0, 2);
        oneRow.tell(1, 1);
        CHECK.due("again() of two rows", oneRow.again(), 4);
    }
}
