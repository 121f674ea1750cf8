/** Promises 25 to 30: what is told from rows, and by a seed. */
public final class RowsTest {
    private static final Check CHECK = new Check("RowsTest");
    private static final String ONE_ROW = "blink 4 4 0; rows 1; delay 1; expose 1; pace 1;";

    public static void main(String[] args) {
        see();
        forget();
        kinds();
        phases();
        ask();
        drift();
        driftRefuses();
        CHECK.finish();
    }

    private static void see() {
        RowShutter x = new RowShutter();
        CHECK.due("see(-1, 0, 0)", x.see(-1, 0, 0), RowShutter.BAD);
        CHECK.due("see(21, 0, 0)", x.see(21, 0, 0), RowShutter.BAD);
        CHECK.due("see(0, -1, 0)", x.see(0, -1, 0), RowShutter.BAD);
        CHECK.due("see(0, 8, 0)", x.see(0, 8, 0), RowShutter.BAD);
        CHECK.due("see(0, 0, -1)", x.see(0, 0, -1), RowShutter.BAD);
        CHECK.due("see(0, 0, 256)", x.see(0, 0, 256), RowShutter.BAD);
        CHECK.due("SEEN", x.count(0), 0);
        CHECK.due("see(20, 7, 255)", x.see(20, 7, 255), 1);
        for (int i = 2; i <= 6; i++) {
            CHECK.due("see(0, 0, 0)", x.see(0, 0, 0), i);
        }
        CHECK.due("a seventh", x.see(0, 0, 0), RowShutter.FULL);
        CHECK.due("a seventh of no row", x.see(0, 8, 0), RowShutter.BAD);
        CHECK.due("SEEN", x.count(0), 6);
    }

    private static void forget() {
        RowShutter x = Check.told(ONE_ROW);
        x.see(0, 0, 4);
        x.see(1, 0, 0);
        CHECK.due("forget(-1)", x.forget(-1), RowShutter.BAD);
        CHECK.due("forget(3) of 2", x.forget(3), RowShutter.BAD);
        CHECK.due("forget(2) of 2", x.forget(2), 2);
        CHECK.due("phases(0)", x.phases(0), 0x222);
        CHECK.due("forget(1) of 2", x.forget(1), 2);
        CHECK.due("phases(0)", x.phases(0), 0x333);
        CHECK.due("SEEN", x.count(0), 1);
        CHECK.due("forget(0) of 1", x.forget(0), 1);
        CHECK.due("forget(0) of none", x.forget(0), 0);
        CHECK.due("phases(0)", x.phases(0), 0xfff);
    }

    private static void kinds() {
        RowShutter x = Check.told(ONE_ROW);
        CHECK.due("kinds(0) of nothing SEEN", x.kinds(0), 15);
        x.see(0, 0, 4);
        CHECK.due("kinds(0)", x.kinds(0), 11);
        x.see(2, 0, 2);
        CHECK.due("kinds(0)", x.kinds(0), 8);
        CHECK.due("lamp(0, 0)", x.lamp(0, 0), 1);
        x.see(2, 0, 3);
        CHECK.due("kinds(0) where two speak against each other", x.kinds(0), 0);
        x.forget(0);
        x.see(2, 0, 2);
        CHECK.due("kinds(0)", x.kinds(0), 12);
        x.forget(0);
        x.see(0, 1, 4);
        CHECK.due("kinds(0) of a row that is not there", x.kinds(0), 0);
        x.tell(0, 2);
        CHECK.due("kinds(0) where it is there", x.kinds(0), 11);
        CHECK.due("kinds(1)", x.kinds(1), RowShutter.BAD);
        CHECK.due("kinds(-1)", x.kinds(-1), RowShutter.BAD);
    }

    private static void phases() {
        RowShutter x = Check.told(ONE_ROW);
        CHECK.due("phases(0) of nothing SEEN", x.phases(0), 0xfff);
        x.see(0, 0, 4);
        CHECK.due("phases(0)", x.phases(0), 0x333);
        x.see(0, 0, 4);
        CHECK.due("phases(0) of the same again", x.phases(0), 0x333);
        x.rest(2);
        CHECK.due("phases(0) from another tick on", x.phases(0), 0xccc);
        x.see(20, 0, 0);
        CHECK.due("phases(0)", x.phases(0), 0);
        CHECK.due("lamp(0, 3)", x.lamp(0, 3), 0);
        RowShutter rows = Check.told(ONE_ROW);
        rows.see(0, 1, 4);
        CHECK.due("phases(0) of a row that is not there", rows.phases(0), 0);
        rows.tell(0, 2);
        CHECK.due("phases(0) where it is there", rows.phases(0), 0x999);
        RowShutter two = Check.told("blink 4 4 0; saw 9 12 0; rows 1; expose 1;");
        two.see(0, 0, 10);
        // 6 by the saw is at stands 8 and 9 alone
        CHECK.due("phases(1)", two.phases(1), 0x300);
        CHECK.due("phases(0)", two.phases(0), 0);
        CHECK.due("phases(2)", two.phases(2), RowShutter.BAD);
        CHECK.due("phases(-1)", two.phases(-1), RowShutter.BAD);
    }

    private static void ask() {
        RowShutter x = Check.told(ONE_ROW);
        CHECK.due("ask(0, 0)", x.ask(0, 0), 0);
        CHECK.due("ask(0, 1)", x.ask(0, 1), 6);
        x.see(0, 0, 4);
        CHECK.due("ask(0, 0)", x.ask(0, 0), 10);
        CHECK.due("ask(0, 1)", x.ask(0, 1), 3);
        x.tell(0, 2);
        CHECK.due("ask(0, 0) of two rows", x.ask(0, 0), 1);
        x.tell(1, 2);
        CHECK.due("ask(0, 0) where the second row tells nothing", x.ask(0, 0), 10);
        x.see(1, 0, 0);
        CHECK.due("ask(0, 0) where no look parts them", x.ask(0, 0), RowShutter.NONE);
        CHECK.due("ask(0, 1) where no look parts them", x.ask(0, 1), RowShutter.NONE);
        x.see(1, 0, 4);
        CHECK.due("ask(0, 0) where no phase is left", x.ask(0, 0), RowShutter.NONE);
        CHECK.due("ask(1, 0)", x.ask(1, 0), RowShutter.BAD);
        CHECK.due("ask(-1, 0)", x.ask(-1, 0), RowShutter.BAD);
        CHECK.due("ask(0, -1)", x.ask(0, -1), RowShutter.BAD);
        CHECK.due("ask(0, 2)", x.ask(0, 2), RowShutter.BAD);
        CHECK.due("lamp(0, 3)", x.lamp(0, 3), 0);
        askFarOff();
    }

    /** A lamp of period 12 looks the same in each shot at a pace of 60; at 25 its stand goes up by one a shot. */
    private static void askFarOff() {
        RowShutter x = Check.told("blink 4 12 0; rows 1; delay 0; expose 1; pace 25;");
        x.see(0, 0, 4);
        // the phases 0 to 5 are left; shot 3 parts them by halves
        CHECK.due("ask(0, 0)", x.ask(0, 0), 30);
        CHECK.due("ask(0, 1)", x.ask(0, 1), 3);
        x.tell(3, 60);
        CHECK.due("ask(0, 0) at a pace of 60", x.ask(0, 0), RowShutter.NONE);
        RowShutter dark = Check.told("saw 1 12 0; rows 1; delay 0; expose 1;");
        CHECK.due("ask(0, 0) of a lamp that gives nothing", dark.ask(0, 0), RowShutter.NONE);
        // the row is full by the other lamps, by all phases or by most, in the shots ahead of the last
        RowShutter full = Check.told(
                "blink 9 12 9; saw 9 12 11; pair 8 12 6; blink 8 11 7; rows 1; delay 2; expose 15; pace 45;");
        full.rest(1);
        CHECK.due("ask(0, 0) at the last shot", full.ask(0, 0), 200);
        CHECK.due("ask(0, 1) at the last shot", full.ask(0, 1), 4);
    }

    private static RowShutter threeSaws() {
        RowShutter x = Check.told("saw 9 9 5; saw 9 9 7; saw 9 9 2; rows 1; delay 0; expose 1; pace 7;");
        x.rest(3);
        return x;
    }

    private static void drift() {
        RowShutter x = threeSaws();
        for (int seed : new int[] {0, 1, -1, 7, 123456789, Integer.MAX_VALUE, Integer.MIN_VALUE}) {
            // an object is good for 512 calls
            x = threeSaws();
            for (int n = 1; n <= 40; n++) {
                int[] phases = {5, 7, 2};
                long state = seed & 0xffffffffL;
                int sum = 0;
                for (int shot = 0; shot < n; shot++) {
                    state = (state * 1103515245L + 12345L) % 4294967296L;
                    int got = (int) (state / 65536 % 32768);
                    phases[got % 3] = got / 8 % 12;
                    for (int l = 0; l < 3; l++) {
                        sum += (3 + 7 * shot + phases[l]) % 9;
                    }
                }
                CHECK.due("drift(" + seed + ", " + n + ", 1)", x.drift(seed, n, 1), sum);
                CHECK.due("drift(" + seed + ", " + n + ", 0) of one row", x.drift(seed, n, 0), 0);
            }
        }
        CHECK.due("lamp(0, 3)", x.lamp(0, 3), 5);
        CHECK.due("TICK", x.rule(2), 3);
        CHECK.due("SHOTS", x.rule(1), 0);
        x.tell(0, 2);
        x.tell(1, 1);
        x.cut(1);
        // the first got of seed 0 is 0 (phase 0), of seed 7 is 25827 (phase 0): at tick 3 the rows are 3 and 4
        CHECK.due("drift(0, 1, 0)", x.drift(0, 1, 0), 1);
        CHECK.due("drift(7, 1, 0)", x.drift(7, 1, 0), 1);
        x.rest(5);
        CHECK.due("drift(0, 1, 0) over the edge", x.drift(0, 1, 0), 8);
    }

    private static void driftRefuses() {
        RowShutter x = new RowShutter();
        CHECK.due("drift(1, 1, 0) without a lamp", x.drift(1, 1, 0), RowShutter.STATE);
        CHECK.due("drift(1, 0, 0) without a lamp", x.drift(1, 0, 0), RowShutter.BAD);
        x.put(1, 1, 1);
        CHECK.due("drift(1, 0, 0)", x.drift(1, 0, 0), RowShutter.BAD);
        CHECK.due("drift(1, 41, 0)", x.drift(1, 41, 0), RowShutter.BAD);
        CHECK.due("drift(1, 1, -1)", x.drift(1, 1, -1), RowShutter.BAD);
        CHECK.due("drift(1, 1, 2)", x.drift(1, 1, 2), RowShutter.BAD);
    }
}
