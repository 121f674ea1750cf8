/** Promises 23 and 24, sentence by sentence, at their edges. */
public final class OddsEdgeTest {
    private static final Sentences SAYS = new Sentences("OddsEdgeTest", 23, 24);
    private static final int MIN = Integer.MIN_VALUE, MAX = Integer.MAX_VALUE;
    /** BANDS of 1 in SHOTS 0 to 6, of 8 in SHOT 7. */
    private static final String SAW = "saw 9 9 1;rows 2;delay 1;expose 1;pace 1;";
    /** The same BANDS of 8 in each SHOT. */
    private static final String EVER = "saw 9 9 8;rows 2;delay 1;expose 1;pace 9;";

    public static void main(String[] args) {
        luckByShots();
        luckByOdds();
        luckByLamps();
        luckByBands();
        luckRefuses();
        meanByShots();
        meanByLamps();
        meanRefuses();
        SAYS.finish();
    }

    private static void luck(String text, int v, int n, int b, long top, long bottom) {
        RowShutter x = Check.told(text);
        String call = "luck(" + v + ", " + n + ", " + b + ", ";
        SAYS.due(call + "0) of " + text, x.luck(v, n, b, 0), top);
        SAYS.due(call + "1) of " + text, x.luck(v, n, b, 1), bottom);
    }

    private static void luckByShots() {
        SAYS.of(23, "In each of n SHOTS (0 to 8)");
        luck(EVER, 3, 0, 0, 1, 1);
        long top = 1;
        long bottom = 1;
        for (int n = 1; n <= 8; n++) {
            top *= 3;
            bottom *= 10;
            luck(EVER, 3, n, 7, top, bottom);
        }
        luck(SAW, 3, 7, 7, 1, 1);
        luck(SAW, 3, 8, 7, 3, 10);
        // from now on: three shots on, SHOT 4 is the one
        RowShutter x = Check.told(SAW);
        x.shoot(3);
        SAYS.due("luck(3, 4, 7, 1) three shots on", x.luck(3, 4, 7, 1), 1);
        SAYS.due("luck(3, 5, 7, 1) three shots on", x.luck(3, 5, 7, 1), 10);
        SAYS.of(23, "0, 1.");
        SAYS.due("luck(7, 8, 7, 0)", Check.told(EVER).luck(7, 8, 7, 0), 5764801L);
        SAYS.due("luck(7, 8, 7, 1)", Check.told(EVER).luck(7, 8, 7, 1), 100000000L);
    }

    private static void luckByOdds() {
        SAYS.of(23, "fail by v out of ten (0 to 10), by itself");
        luck(EVER, 0, 1, 7, 0, 1);
        luck(EVER, 0, 8, 7, 0, 1);
        luck(EVER, 1, 1, 7, 1, 10);
        luck(EVER, 9, 1, 7, 9, 10);
        luck(EVER, 9, 8, 7, 43046721, 100000000);
        luck(EVER, 1, 8, 7, 1, 100000000);
        luck(EVER, 10, 1, 7, 1, 1);
        luck(EVER, 10, 8, 0, 1, 1);
        // each shot by itself: both must fail
        luck(EVER, 5, 2, 7, 1, 4);
        // SHOTS 2 and 5 are uneven, the others are even as they are
        luck("blink 4 6 0;rows 2;delay 1;expose 1;pace 1;", 3, 6, 3, 9, 100);
    }

    private static void luckByLamps() {
        SAYS.of(23, "all LAMPS but steady ones");
        // all at once: were one of them to fail without the other, the BANDS would be 4
        luck("blink 4 2 0;blink 4 2 1;rows 2;delay 1;expose 1;pace 2;", 5, 8, 3, 1, 1);
        luck("saw 9 9 8;steady 9 1 0;rows 2;delay 1;expose 1;pace 9;", 3, 1, 7, 3, 10);
        luck("pair 8 2 0;rows 2;delay 1;expose 1;pace 2;", 3, 1, 3, 3, 10);
        luck("blink 8 2 0;rows 2;delay 1;expose 1;pace 2;", 3, 1, 7, 3, 10);
        // 15 in 17 ticks is full; the steady one alone is 153 in each row
        luck("steady 9 1 0;pair 6 1 0;rows 2;delay 1;expose 17;", 3, 8, 0, 1, 1);
        luck("steady 9 1 0;steady 9 5 3;", 10, 8, 0, 1, 1);
        luck("", 5, 8, 0, 1, 1);
        SAYS.of(23, "(they GIVE nothing for all its ROWS):");
        luck("pair 8 12 5;rows 8;delay 1;expose 1;pace 12;", 3, 1, 0, 3, 10);
        luck("pair 8 12 5;rows 8;delay 1;expose 1;pace 12;", 10, 1, 0, 1, 1);
    }

    private static void luckByBands() {
        SAYS.of(23, "that no BANDS are more than b (0 to 255) in them:");
        luck(EVER, 3, 1, 7, 3, 10);
        luck(EVER, 3, 1, 8, 1, 1);
        luck(EVER, 3, 1, 0, 3, 10);
        luck(EVER, 3, 8, 255, 1, 1);
        luck(SAW, 3, 8, 1, 3, 10);
        luck(SAW, 3, 8, 0, 6561, 100000000);
        String four = "blink 9 12 0;blink 9 12 0;blink 9 12 0;blink 9 12 0;rows 2;delay 6;expose 6;pace 60;";
        luck(four, 3, 1, 215, 3, 10);
        luck(four, 3, 1, 216, 1, 1);
    }

    private static void luckRefuses() {
        SAYS.of(23, "BAD.");
        for (int v : new int[] {-1, 11, MIN, MAX}) {
            luck(EVER, v, 1, 1, RowShutter.BAD, RowShutter.BAD);
        }
        for (int n : new int[] {-1, 9, MIN, MAX}) {
            luck(EVER, 1, n, 1, RowShutter.BAD, RowShutter.BAD);
        }
        for (int b : new int[] {-1, 256, MIN, MAX}) {
            luck(EVER, 1, 1, b, RowShutter.BAD, RowShutter.BAD);
        }
        RowShutter x = Check.told(EVER);
        for (int what : new int[] {-1, 2, MIN, MAX}) {
            SAYS.due("luck(1, 1, 1, " + what + ")", x.luck(1, 1, 1, what), RowShutter.BAD);
            SAYS.due("luck(1, 0, 1, " + what + ")", x.luck(1, 0, 1, what), RowShutter.BAD);
        }
    }

    private static void mean(String text, int v, int n, long top, long bottom) {
        RowShutter x = Check.told(text);
        String call = "mean(" + v + ", " + n + ", ";
        SAYS.due(call + "0) of " + text, x.mean(v, n, 0), top);
        SAYS.due(call + "1) of " + text, x.mean(v, n, 1), bottom);
    }

    private static void meanByShots() {
        SAYS.of(24, "Likewise, the mean of how BRIGHT all ROWS are in them, summed:");
        mean(SAW, 5, 0, 0, 1);
        mean(SAW, 0, 0, 0, 1);
        int sum = 0;
        for (int n = 1; n <= 8; n++) {
            sum += n + (n + 1) % 9;
            mean(SAW, 0, n, sum, 1);
            mean(SAW, 10, n, 0, 1);
            mean(SAW, 5, n, sum % 2 == 0 ? sum / 2 : sum, sum % 2 == 0 ? 1 : 2);
        }
        mean(EVER, 1, 1, 36, 5);
        mean(EVER, 9, 1, 4, 5);
        mean(EVER, 5, 8, 32, 1);
        RowShutter x = Check.told(SAW);
        x.shoot(7);
        SAYS.due("mean(0, 1, 0) seven shots on", x.mean(0, 1, 0), 8);
        SAYS.of(24, "0, 1.");
        String full = "steady 9 1 0;pair 9 1 0;rows 8;expose 20;";
        // 180 by the steady one, 360 by both, told as 255: (255 times 9 and 180) by ten, 64 times
        mean(full, 1, 8, 15840, 1);
        mean(full, 10, 8, 64 * 180, 1);
        mean(full, 0, 8, 64 * 255, 1);
    }

    private static void meanByLamps() {
        SAYS.of(24, "Likewise");
        mean("saw 9 9 8;steady 3 1 0;rows 2;delay 1;expose 1;pace 9;", 10, 8, 48, 1);
        mean("saw 9 9 8;steady 3 1 0;rows 2;delay 1;expose 1;pace 9;", 0, 8, 112, 1);
        mean("steady 9 1 0;rows 2;expose 1;", 7, 8, 144, 1);
        mean("", 7, 8, 0, 1);
        // all at once: 255 by seven out of ten, 160 by three; not what one of both would give, 320 told as 255
        mean("steady 8 1 0;pair 8 1 0;pair 8 1 0;rows 1;expose 20;", 3, 1, 453, 2);
    }

    private static void meanRefuses() {
        SAYS.of(24, "BAD.");
        for (int v : new int[] {-1, 11, MIN, MAX}) {
            mean(EVER, v, 1, RowShutter.BAD, RowShutter.BAD);
        }
        for (int n : new int[] {-1, 9, MIN, MAX}) {
            mean(EVER, 1, n, RowShutter.BAD, RowShutter.BAD);
        }
        RowShutter x = Check.told(EVER);
        for (int what : new int[] {-1, 2, MIN, MAX}) {
            SAYS.due("mean(1, 1, " + what + ")", x.mean(1, 1, what), RowShutter.BAD);
            SAYS.due("mean(1, 0, " + what + ")", x.mean(1, 0, what), RowShutter.BAD);
        }
    }
}
