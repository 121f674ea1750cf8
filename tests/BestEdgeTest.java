/** Promises 19 to 22, sentence by sentence, at their edges. */
public final class BestEdgeTest {
    private static final Sentences SAYS = new Sentences("BestEdgeTest", 19, 22);
    private static final int MIN = Integer.MIN_VALUE, MAX = Integer.MAX_VALUE;
    private static final String[] SOME = {
        "saw 9 9 2;rows 2;delay 1;expose 1;pace 1;", "saw 4 10 2;pair 7 11 8;rows 3;delay 1;expose 2;pace 3;",
        "blink 9 11 0;blink 9 12 0;rows 8;delay 9;expose 20;pace 60;", "saw 2 2 2;saw 1 4 6;saw 6 3 8;pair 8 6 6;rows 3;delay 8;"};

    public static void main(String[] args) {
        bestDelay();
        bestExpose();
        bestPace();
        bestOfSeveral();
        bestRefuses();
        kind();
        kindRefuses();
        phase();
        phaseRefuses();
        out();
        outOfSeveral();
        outNone();
        askedOfNow();
        SAYS.finish();
    }

    private static void best(String text, int which, int n, int value, int much) {
        RowShutter x = Check.told(text);
        SAYS.due("best(" + which + ", " + n + ", 0) of " + text, x.best(which, n, 0), value);
        SAYS.due("best(" + which + ", " + n + ", 1) of " + text, x.best(which, n, 1), much);
    }

    /** Told the other way: no value is better than the best one, and none that is less is as good. */
    private static void holdsAgainstAll(String text, int which, int n, int least, int most) {
        int value = Check.told(text).best(which, n, 0);
        int much = Check.told(text).best(which, n, 1);
        for (int v = least; v <= most; v++) {
            RowShutter x = Check.told(text);
            x.tell(which, v);
            int greatest = x.runs(n, 0);
            boolean due = v < value ? greatest > much : v == value ? greatest == much : greatest >= much;
            SAYS.due("best(" + which + ", " + n + ") of " + text + " against " + v, due ? 1 : 0, 1);
        }
    }

    private static void bestDelay() {
        SAYS.of(19, "DELAY, EXPOSE, PACE (which 1 to 3) by which the greatest BANDS of n SHOTS (0 to 40) are least");
        for (String text : SOME) {
            for (int n : new int[] {0, 1, 2, 40}) {
                // by a DELAY of 0 all rows are the same
                best(text, 1, n, 0, 0);
                holdsAgainstAll(text, 1, n, 0, 9);
                holdsAgainstAll(text, 2, n, 1, 20);
                holdsAgainstAll(text, 3, n, 1, 60);
            }
        }
    }

    private static void bestExpose() {
        best("saw 9 9 2;rows 2;delay 1;expose 1;pace 1;", 2, 0, 1, 0);
        best("saw 6 6 0;rows 2;delay 1;expose 1;pace 1;", 2, 1, 6, 0);
        best("saw 7 4 6;saw 9 7 7;rows 3;delay 6;expose 6;pace 47;", 2, 2, 20, 3);
        best("saw 7 7 5;saw 5 10 2;rows 2;delay 2;expose 3;pace 7;", 2, 40, 20, 2);
        // SHOT 39 alone makes 1 worse than 16
        best("saw 5 11 2;pair 8 8 8;rows 2;delay 2;expose 20;pace 5;", 2, 39, 1, 5);
        best("saw 5 11 2;pair 8 8 8;rows 2;delay 2;expose 20;pace 5;", 2, 40, 16, 6);
    }

    private static void bestPace() {
        best("saw 9 9 2;rows 2;delay 1;expose 1;pace 7;", 3, 0, 1, 0);
        best("saw 9 9 2;rows 2;delay 1;expose 1;pace 7;", 3, 1, 1, 1);
        best("pair 5 5 11;saw 5 12 0;rows 3;delay 1;expose 16;pace 24;", 3, 3, 60, 1);
        // SHOT 39 alone makes 35 worse than 44
        best("saw 2 8 3;saw 3 11 0;rows 3;delay 9;expose 3;pace 2;", 3, 39, 35, 6);
        best("saw 2 8 3;saw 3 11 0;rows 3;delay 9;expose 3;pace 2;", 3, 40, 44, 6);
    }

    private static void bestOfSeveral() {
        SAYS.of(19, "of several the least (what 0)");
        RowShutter none = new RowShutter();
        int[] least = {0, 0, 1, 1};
        for (int which = 1; which <= 3; which++) {
            for (int n : new int[] {0, 1, 40}) {
                SAYS.due("best(" + which + ", " + n + ", 0) without a lamp", none.best(which, n, 0), least[which]);
            }
        }
        // 2, 4, 6, .. ticks make a blink one of period 2 even
        best("blink 9 2 0;rows 2;delay 1;expose 1;pace 1;", 2, 5, 2, 0);
        // a PACE of 9, 18, .. stays at stand 2, all others meet stand 8
        best("saw 9 9 2;rows 2;delay 1;expose 1;pace 1;", 3, 40, 9, 1);
        SAYS.of(19, "how much (1).");
        SAYS.due("best(2, 40, 1) without a lamp", none.best(2, 40, 1), 0);
        SAYS.due("best(3, 1, 1)", Check.told("saw 9 9 8;rows 2;delay 1;expose 1;").best(3, 1, 1), 8);
        String four = "blink 9 12 0;blink 9 12 0;blink 9 12 0;blink 9 12 0;rows 2;delay 6;expose 6;";
        SAYS.due("best(3, 1, 1), the most", Check.told(four).best(3, 1, 1), 216);
        SAYS.due("best(3, 0, 1)", Check.told(four).best(3, 0, 1), 0);
    }

    private static void bestRefuses() {
        SAYS.of(19, "BAD.");
        RowShutter x = Check.told(SOME[0]);
        for (int which : new int[] {-1, 0, 4, MIN, MAX}) {
            SAYS.due("best(" + which + ", 1, 0)", x.best(which, 1, 0), RowShutter.BAD);
        }
        for (int n : new int[] {-1, 41, MIN, MAX}) {
            SAYS.due("best(1, " + n + ", 0)", x.best(1, n, 0), RowShutter.BAD);
        }
        for (int what : new int[] {-1, 2, MIN, MAX}) {
            SAYS.due("best(1, 1, " + what + ")", x.best(1, 1, what), RowShutter.BAD);
        }
    }

    private static void kind(String text, int l, int n, int value, int much) {
        RowShutter x = Check.told(text);
        SAYS.due("kind(" + l + ", " + n + ", 0) of " + text, x.kind(l, n, 0), value);
        SAYS.due("kind(" + l + ", " + n + ", 1) of " + text, x.kind(l, n, 1), much);
    }

    private static void partHoldsAgainstAll(String text, int l, int part, int n, int most) {
        RowShutter asked = Check.told(text);
        int value = part == 0 ? asked.kind(l, n, 0) : asked.phase(l, n, 0);
        int much = part == 0 ? asked.kind(l, n, 1) : asked.phase(l, n, 1);
        for (int v = 0; v <= most; v++) {
            RowShutter x = Check.told(text);
            x.alter(l, part, v);
            int greatest = x.runs(n, 0);
            boolean due = v < value ? greatest > much : v == value ? greatest == much : greatest >= much;
            SAYS.due("lamp " + l + " of " + text + ", " + n + " shots, against " + v, due ? 1 : 0, 1);
        }
    }

    private static void kind() {
        SAYS.of(20, "The KIND of a LAMP by which the greatest BANDS of n SHOTS (0 to 40) are least");
        for (String text : SOME) {
            for (int l = 0; l < Check.told(text).rule(0); l++) {
                for (int n : new int[] {0, 1, 2, 40}) {
                    partHoldsAgainstAll(text, l, 0, n, 3);
                }
            }
        }
        kind("saw 9 9 2;rows 2;delay 1;expose 1;pace 1;", 0, 40, 0, 0);
        // rows by kind of lamp 0: steady 8 4, blink 4 4, saw 6 0, pair 6 4
        kind("saw 4 2 1;blink 4 2 0;rows 2;delay 1;expose 1;pace 2;", 0, 1, 1, 0);
        // 8 4, 8 0, 4 2, 8 2
        kind("blink 4 2 0;blink 4 2 0;rows 2;delay 1;expose 1;pace 2;", 0, 1, 2, 2);
        // 8 6, 4 6, 6 2, 6 6
        kind("saw 4 2 1;pair 4 2 0;rows 2;delay 1;expose 1;pace 2;", 0, 1, 3, 0);
        kind("pair 9 9 5;saw 7 8 7;rows 2;delay 2;expose 1;pace 1;", 0, 39, 2, 5);
        kind("pair 9 9 5;saw 7 8 7;rows 2;delay 2;expose 1;pace 1;", 0, 40, 0, 6);
        SAYS.of(20, "of several the first (what 0)");
        kind("pair 9 1 0;rows 2;delay 1;expose 1;", 0, 40, 0, 0);
        kind("pair 9 9 5;rows 1;", 0, 40, 0, 0);
        kind("pair 9 9 5;saw 8 8 8;rows 8;", 0, 0, 0, 0);
        // 5 1, 5 0, 4 0, 5 0: steady and saw
        kind("saw 1 2 0;blink 4 2 0;rows 2;delay 1;expose 1;pace 2;", 0, 1, 0, 4);
        SAYS.of(20, "how much (1).");
        kind("steady 9 1 0;saw 9 9 8;rows 2;delay 1;expose 1;pace 9;", 0, 40, 0, 8);
    }

    private static void kindRefuses() {
        SAYS.of(20, "BAD.");
        RowShutter x = Check.told("saw 9 9 2;saw 9 9 2;");
        for (int l : new int[] {-1, 2, 3, 4, MIN, MAX}) {
            SAYS.due("kind(" + l + ", 1, 0)", x.kind(l, 1, 0), RowShutter.BAD);
        }
        for (int n : new int[] {-1, 41, MIN, MAX}) {
            SAYS.due("kind(0, " + n + ", 0)", x.kind(0, n, 0), RowShutter.BAD);
        }
        for (int what : new int[] {-1, 2, MIN, MAX}) {
            SAYS.due("kind(0, 1, " + what + ")", x.kind(0, 1, what), RowShutter.BAD);
        }
        SAYS.due("kind(0, 1, 0) without a lamp", new RowShutter().kind(0, 1, 0), RowShutter.BAD);
    }

    private static void phase(String text, int l, int n, int value, int much) {
        RowShutter x = Check.told(text);
        SAYS.due("phase(" + l + ", " + n + ", 0) of " + text, x.phase(l, n, 0), value);
        SAYS.due("phase(" + l + ", " + n + ", 1) of " + text, x.phase(l, n, 1), much);
    }

    private static void phase() {
        SAYS.of(21, "The PHASE of a LAMP by which the greatest BANDS of n SHOTS (0 to 40) are least");
        for (String text : SOME) {
            for (int l = 0; l < Check.told(text).rule(0); l++) {
                for (int n : new int[] {0, 1, 2, 40}) {
                    partHoldsAgainstAll(text, l, 3, n, 11);
                }
            }
        }
        phase("saw 9 12 0;blink 9 12 11;rows 2;delay 1;expose 1;pace 12;", 0, 1, 11, 1);
        phase("saw 8 12 9;rows 3;delay 5;expose 5;pace 41;", 0, 2, 11, 9);
        phase("saw 8 9 11;saw 9 5 4;rows 3;delay 7;expose 3;pace 26;", 0, 39, 5, 22);
        phase("saw 8 9 11;saw 9 5 4;rows 3;delay 7;expose 3;pace 26;", 0, 40, 0, 23);
        SAYS.of(21, "of several the least (what 0)");
        phase("saw 9 9 8;rows 2;delay 1;expose 1;pace 1;", 0, 1, 0, 1);
        phase("saw 9 9 8;rows 2;delay 1;expose 1;pace 1;", 0, 0, 0, 0);
        phase("steady 9 9 8;rows 8;", 0, 40, 0, 0);
        // even at stands 1, 3, .. of the other
        phase("blink 4 2 0;blink 4 2 0;rows 2;delay 1;expose 1;pace 2;", 0, 40, 1, 0);
        phase("blink 4 2 0;blink 4 2 0;rows 2;delay 1;expose 1;pace 2;", 1, 40, 1, 0);
        SAYS.of(21, "how much (1).");
        phase("steady 9 1 0;saw 9 9 8;rows 2;delay 1;expose 1;pace 9;", 0, 40, 0, 8);
        phase("blink 3 2 0;blink 4 2 0;rows 2;delay 1;expose 1;pace 2;", 0, 40, 1, 1);
    }

    private static void phaseRefuses() {
        SAYS.of(21, "BAD.");
        RowShutter x = Check.told("saw 9 9 2;saw 9 9 2;");
        for (int l : new int[] {-1, 2, 3, 4, MIN, MAX}) {
            SAYS.due("phase(" + l + ", 1, 0)", x.phase(l, 1, 0), RowShutter.BAD);
        }
        for (int n : new int[] {-1, 41, MIN, MAX}) {
            SAYS.due("phase(0, " + n + ", 0)", x.phase(0, n, 0), RowShutter.BAD);
        }
        for (int what : new int[] {-1, 2, MIN, MAX}) {
            SAYS.due("phase(0, 1, " + what + ")", x.phase(0, 1, what), RowShutter.BAD);
        }
        SAYS.due("phase(0, 1, 0) without a lamp", new RowShutter().phase(0, 1, 0), RowShutter.BAD);
    }

    private static void out(String text, int n, int lamp, int much) {
        RowShutter x = Check.told(text);
        SAYS.due("out(" + n + ", 0) of " + text, x.out(n, 0), lamp);
        SAYS.due("out(" + n + ", 1) of " + text, x.out(n, 1), much);
    }

    private static void out() {
        SAYS.of(22, "The LAMP that had better be put out (it GIVES nothing)");
        out("saw 9 9 2;rows 2;delay 1;expose 1;pace 1;", 1, 0, 0);
        out("steady 9 1 0;saw 9 9 2;rows 2;delay 1;expose 1;pace 1;", 1, 1, 0);
        // a pair one gives nothing then, not half
        out("pair 8 2 0;rows 2;delay 1;expose 1;pace 2;", 1, 0, 0);
        SAYS.of(22, "so that the greatest BANDS of n SHOTS (0 to 40) are least");
        out("blink 4 2 0;blink 6 2 0;rows 2;delay 1;expose 1;pace 2;", 40, 1, 4);
        out("saw 2 2 2;saw 1 4 6;saw 6 3 8;pair 8 6 6;rows 3;delay 8;expose 8;pace 22;", 2, 3, 4);
        out("saw 9 10 4;saw 9 8 11;rows 2;delay 7;expose 1;pace 3;", 39, RowShutter.NONE, RowShutter.NONE);
        out("saw 9 10 4;saw 9 8 11;rows 2;delay 7;expose 1;pace 3;", 40, 0, 7);
    }

    private static void outOfSeveral() {
        String alike = "blink 4 2 0;blink 4 2 0;blink 4 2 0;rows 2;delay 1;expose 1;pace 2;";
        SAYS.of(22, "of several the first (what 0)");
        out(alike, 1, 0, 8);
        out("steady 4 2 0;blink 4 2 0;blink 4 2 0;rows 2;delay 1;expose 1;pace 2;", 1, 1, 4);
        SAYS.of(22, "how much (1).");
        out(alike, 40, 0, 8);
    }

    private static void outNone() {
        SAYS.of(22, "less than as it is");
        // 4 8; without the first 0 8, without the second 4 0: as much as it is
        out("blink 4 2 0;blink 8 2 1;rows 2;delay 1;expose 1;pace 2;", 1, RowShutter.NONE, RowShutter.NONE);
        // 4 9; without the first 0 9, without the second 4 0: less than it is
        out("blink 4 2 0;blink 9 2 1;rows 2;delay 1;expose 1;pace 2;", 1, 1, 4);
        out("steady 9 1 0;steady 8 1 0;", 40, RowShutter.NONE, RowShutter.NONE);
        // full rows are even as it is
        out("steady 9 1 0;steady 9 1 0;blink 1 2 0;rows 2;delay 1;expose 15;", 1, RowShutter.NONE, RowShutter.NONE);
        SAYS.of(22, "BAD;");
        RowShutter x = Check.told(SOME[0]);
        for (int n : new int[] {-1, 41, MIN, MAX}) {
            SAYS.due("out(" + n + ", 0)", x.out(n, 0), RowShutter.BAD);
            SAYS.due("out(" + n + ", 1) without a lamp", new RowShutter().out(n, 1), RowShutter.BAD);
        }
        for (int what : new int[] {-1, 2, MIN, MAX}) {
            SAYS.due("out(1, " + what + ")", x.out(1, what), RowShutter.BAD);
            SAYS.due("out(1, " + what + ") without a lamp", new RowShutter().out(1, what), RowShutter.BAD);
        }
        SAYS.of(22, "NONE: none.");
        out("", 40, RowShutter.NONE, RowShutter.NONE);
        out("saw 9 9 8;rows 2;delay 1;expose 1;", 0, RowShutter.NONE, RowShutter.NONE);
        out("saw 9 9 8;rows 1;", 40, RowShutter.NONE, RowShutter.NONE);
        out("saw 9 9 8;delay 0;", 40, RowShutter.NONE, RowShutter.NONE);
    }

    /** A text, changed call by call into pair 7 11 8; saw 4 10 0; rows 3; delay 1; expose 2; pace 3; at TICK 5. */
    private static RowShutter changed() {
        RowShutter x = Check.told("saw 9 9 2;rows 8;delay 9;expose 20;pace 60;");
        x.alter(0, 0, 3);
        x.alter(0, 1, 7);
        x.alter(0, 2, 11);
        x.alter(0, 3, 8);
        x.put(2, 4, 10);
        int[] rules = {3, 1, 2, 3};
        for (int what = 0; what < 4; what++) {
            x.tell(what, rules[what]);
        }
        x.rest(5);
        return x;
    }

    /** What is best is so of how all is now, not of how it was when a text was told or another question asked. */
    private static void askedOfNow() {
        int[][] best = {{0, 0}, {11, 3}, {5, 1}};
        for (int what = 0; what <= 1; what++) {
            SAYS.of(19, "are least");
            for (int which = 1; which <= 3; which++) {
                SAYS.due("best(" + which + ", 2, " + what + ")", changed().best(which, 2, what), best[which - 1][what]);
            }
            SAYS.of(20, "are least");
            SAYS.due("kind(0, 2, " + what + ")", changed().kind(0, 2, what), what == 0 ? 2 : 4);
            SAYS.due("kind(1, 2, " + what + ")", changed().kind(1, 2, what), what == 0 ? 3 : 2);
            SAYS.of(21, "are least");
            SAYS.due("phase(0, 2, " + what + ")", changed().phase(0, 2, what), what == 0 ? 1 : 2);
            SAYS.due("phase(1, 2, " + what + ")", changed().phase(1, 2, what), what == 0 ? 4 : 3);
            SAYS.of(22, "are least");
            SAYS.due("out(2, " + what + ")", changed().out(2, what), what == 0 ? 1 : 4);
        }
        RowShutter x = changed();
        x.luck(10, 1, 0, 0);
        SAYS.due("out(2, 1) behind luck()", x.out(2, 1), 4);
        x.drift(1, 40, 0);
        SAYS.due("out(2, 1) behind drift()", x.out(2, 1), 4);
    }
}
