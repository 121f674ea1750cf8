/** Promises 23 and 24: lamps that fail. */
public final class OddsTest {
    private static final Check CHECK = new Check("OddsTest");

    public static void main(String[] args) {
        luck();
        luckOfAllLamps();
        luckRefuses();
        mean();
        meanRefuses();
        CHECK.finish();
    }

    private static void lucky(RowShutter x, int v, int n, int b, long top, long bottom) {
        String call = "luck(" + v + ", " + n + ", " + b + ", ";
        CHECK.due(call + "0)", x.luck(v, n, b, 0), top);
        CHECK.due(call + "1)", x.luck(v, n, b, 1), bottom);
    }

    private static void luck() {
        // bands 8, 0, 8, 0, ..
        RowShutter x = Check.told("blink 4 4 0; rows 2; delay 2; expose 2; pace 3;");
        lucky(x, 3, 0, 0, 1, 1);
        lucky(x, 3, 1, 7, 3, 10);
        lucky(x, 3, 1, 8, 1, 1);
        lucky(x, 3, 2, 7, 3, 10);
        lucky(x, 3, 3, 7, 9, 100);
        lucky(x, 2, 3, 7, 1, 25);
        lucky(x, 0, 3, 7, 0, 1);
        lucky(x, 10, 3, 0, 1, 1);
        lucky(x, 3, 8, 7, 81, 10000);
        lucky(x, 3, 8, 255, 1, 1);
        x.tell(3, 4);
        lucky(x, 7, 8, 7, 5764801, 100000000);
        lucky(x, 5, 8, 0, 1, 256);
        CHECK.due("TICK", x.rule(2), 0);
        CHECK.due("lamp(0, 4)", x.lamp(0, 4), 4);
    }

    /** The document says that all of them fail: they go at once, not one without another. */
    private static void luckOfAllLamps() {
        RowShutter x = Check.told("blink 4 2 0; blink 4 2 1; steady 9 1 0; rows 2; delay 1; expose 1; pace 2;");
        lucky(x, 5, 1, 0, 1, 1);
        lucky(x, 5, 8, 0, 1, 1);
        x.alter(1, 1, 5);
        lucky(x, 4, 2, 0, 4, 25);
        x.alter(0, 0, 0);
        lucky(x, 4, 1, 4, 2, 5);
        lucky(x, 4, 1, 5, 1, 1);
    }

    private static void luckRefuses() {
        RowShutter x = new RowShutter();
        lucky(x, 5, 8, 0, 1, 1);
        lucky(x, -1, 1, 1, RowShutter.BAD, RowShutter.BAD);
        lucky(x, 11, 1, 1, RowShutter.BAD, RowShutter.BAD);
        lucky(x, 5, -1, 1, RowShutter.BAD, RowShutter.BAD);
        lucky(x, 5, 9, 1, RowShutter.BAD, RowShutter.BAD);
        lucky(x, 5, 1, -1, RowShutter.BAD, RowShutter.BAD);
        lucky(x, 5, 1, 256, RowShutter.BAD, RowShutter.BAD);
        CHECK.due("luck(5, 1, 1, -1)", x.luck(5, 1, 1, -1), RowShutter.BAD);
        CHECK.due("luck(5, 1, 1, 2)", x.luck(5, 1, 1, 2), RowShutter.BAD);
    }

    private static void meant(RowShutter x, int v, int n, long top, long bottom) {
        String call = "mean(" + v + ", " + n + ", ";
        CHECK.due(call + "0)", x.mean(v, n, 0), top);
        CHECK.due(call + "1)", x.mean(v, n, 1), bottom);
    }

    private static void mean() {
        // a shot is 8 bright by the blink lamp and 8 by the steady one
        RowShutter x = Check.told("blink 4 4 0; steady 2 1 0; rows 2; delay 2; expose 2; pace 3;");
        meant(x, 5, 0, 0, 1);
        meant(x, 0, 1, 16, 1);
        meant(x, 10, 1, 8, 1);
        meant(x, 5, 1, 12, 1);
        meant(x, 3, 1, 68, 5);
        meant(x, 3, 8, 544, 5);
        meant(x, 1, 1, 76, 5);
        meant(x, 5, 8, 96, 1);
        CHECK.due("lamp(0, 4)", x.lamp(0, 4), 4);
        RowShutter odd = Check.told("saw 3 3 1; rows 1; expose 1;");
        meant(odd, 1, 1, 9, 10);
        meant(odd, 10, 1, 0, 1);
        // 255 by all, 180 by the steady one alone
        RowShutter full = Check.told("steady 9 1 0; blink 9 2 0; rows 1; expose 20;");
        meant(full, 1, 1, 495, 2);
        RowShutter together = Check.told("steady 8 1 0; pair 8 1 0; pair 8 1 0; rows 1; expose 20;");
        // all at once: 255 by nine out of ten, 160 by one
        meant(together, 1, 1, 491, 2);
    }

    private static void meanRefuses() {
        RowShutter x = new RowShutter();
        meant(x, 5, 8, 0, 1);
        meant(x, -1, 1, RowShutter.BAD, RowShutter.BAD);
        meant(x, 11, 1, RowShutter.BAD, RowShutter.BAD);
        meant(x, 5, -1, RowShutter.BAD, RowShutter.BAD);
        meant(x, 5, 9, RowShutter.BAD, RowShutter.BAD);
        CHECK.due("mean(5, 1, -1)", x.mean(5, 1, -1), RowShutter.BAD);
        CHECK.due("mean(5, 1, 2)", x.mean(5, 1, 2), RowShutter.BAD);
    }
}
