/** Promises 9 to 13, sentence by sentence, at their edges. */
public final class ChangeEdgeTest {
    private static final Sentences SAYS = new Sentences("ChangeEdgeTest", 9, 13);
    private static final int MIN = Integer.MIN_VALUE, MAX = Integer.MAX_VALUE;
    private static final int[] PART_LEAST = {0, 1, 1, 0};
    private static final int[] PART_MOST = {3, 9, 12, 11};

    public static void main(String[] args) {
        alter();
        alterIsSeen();
        alterRefuses();
        tell();
        put();
        putFull();
        cut();
        rest();
        restFull();
        SAYS.finish();
    }

    private static RowShutter fourLamps() {
        return Check.told("steady 1 1 0;blink 2 2 1;saw 3 3 2;pair 4 4 3;");
    }

    private static void alter() {
        SAYS.of(9, "KIND, LIGHT, PERIOD, PHASE (what 0 to 3) of a LAMP becomes v: what it was.");
        for (int l = 0; l < 4; l++) {
            for (int what = 0; what < 4; what++) {
                RowShutter x = fourLamps();
                int was = x.lamp(l, what);
                for (int v = PART_LEAST[what]; v <= PART_MOST[what]; v++) {
                    SAYS.due("alter(" + l + ", " + what + ", " + v + ")", x.alter(l, what, v), was);
                    SAYS.due("lamp(" + l + ", " + what + ")", x.lamp(l, what), v);
                    was = v;
                }
                RowShutter other = fourLamps();
                for (int i = 0; i < 16; i++) {
                    if (i != 4 * l + what) {
                        SAYS.due("another part, " + i, x.lamp(i / 4, i % 4), other.lamp(i / 4, i % 4));
                    }
                }
            }
        }
        RowShutter x = Check.told("saw 9 12 11;");
        x.alter(0, 2, 1);
        SAYS.due("a phase stays above a period that is less", x.lamp(0, 3), 11);
        x.alter(0, 0, 1);
        SAYS.due("what it gives then", x.lamp(0, 4), 9);
        SAYS.due("the same once more", x.alter(0, 3, 11), 11);
    }

    /** What a LAMP gives is by what it has become, in whatever order. */
    private static void alterIsSeen() {
        String[] kinds = {"steady", "blink", "saw", "pair"};
        int[] parts = {2, 9, 9, 3};
        RowShutter x = Check.told("saw 9 9 3;expose 7;");
        int[][] steps = {{1, 4}, {2, 12}, {3, 11}, {0, 3}, {2, 5}, {1, 9}, {0, 1}, {3, 0}, {2, 1}, {0, 2}, {2, 7}, {1, 8}, {0, 0}};
        for (int[] step : steps) {
            x.alter(0, step[0], step[1]);
            parts[step[0]] = step[1];
            String text = kinds[parts[0]] + " " + parts[1] + " " + parts[2] + " " + parts[3] + ";";
            RowShutter told = Check.told(text + "expose 7;");
            SAYS.due("what gives " + text, x.lamp(0, 4), told.lamp(0, 4));
            for (int n = 0; n < 5; n++) {
                SAYS.due("how bright by " + text, x.ahead(n, 3), told.ahead(n, 3));
            }
        }
    }

    private static void alterRefuses() {
        SAYS.of(9, "BAD.");
        for (int what = 0; what < 4; what++) {
            for (int v : new int[] {PART_LEAST[what] - 1, PART_MOST[what] + 1, MIN, MAX}) {
                RowShutter x = fourLamps();
                SAYS.due("alter(3, " + what + ", " + v + ")", x.alter(3, what, v), RowShutter.BAD);
                SAYS.same("all", Account.of(x), Account.of(fourLamps()));
            }
        }
        RowShutter x = fourLamps();
        for (int v : new int[] {-1, 4, MIN, MAX}) {
            SAYS.due("alter(" + v + ", 1, 1)", x.alter(v, 1, 1), RowShutter.BAD);
            SAYS.due("alter(0, " + v + ", 1)", x.alter(0, v, 1), RowShutter.BAD);
        }
        for (int lamps = 3; lamps >= 0; lamps--) {
            x.cut(lamps);
            SAYS.due("alter(" + lamps + ", 1, 1) of " + lamps, x.alter(lamps, 1, 1), RowShutter.BAD);
        }
        SAYS.due("alter(0, 1, 1) of a new object", new RowShutter().alter(0, 1, 1), RowShutter.BAD);
    }

    private static void tell() {
        int[] least = {1, 0, 1, 1};
        int[] most = {8, 9, 20, 60};
        SAYS.of(10, "ROWS, DELAY, EXPOSE, PACE (what 0 to 3) becomes v: what it was.");
        for (int what = 0; what < 4; what++) {
            RowShutter x = new RowShutter();
            int was = x.rule(3 + what);
            for (int v = least[what]; v <= most[what]; v++) {
                SAYS.due("tell(" + what + ", " + v + ")", x.tell(what, v), was);
                SAYS.due("rule(" + (3 + what) + ")", x.rule(3 + what), v);
                was = v;
            }
            for (int other = 0; other < 4; other++) {
                int atFirst = new RowShutter().rule(3 + other);
                SAYS.due("rule(" + (3 + other) + ")", x.rule(3 + other), other == what ? most[what] : atFirst);
            }
        }
        SAYS.of(10, "BAD.");
        for (int what = 0; what < 4; what++) {
            for (int v : new int[] {least[what] - 1, most[what] + 1, MIN, MAX}) {
                RowShutter x = new RowShutter();
                SAYS.due("tell(" + what + ", " + v + ")", x.tell(what, v), RowShutter.BAD);
                SAYS.same("all", Account.of(x), Account.of(new RowShutter()));
            }
        }
        for (int what : new int[] {-1, 4, MIN, MAX}) {
            SAYS.due("tell(" + what + ", 1)", new RowShutter().tell(what, 1), RowShutter.BAD);
        }
    }

    private static void put() {
        SAYS.of(11, "A LAMP more, behind all others, with PHASE 0: how many there are.");
        RowShutter x = new RowShutter();
        int[][] lamps = {{3, 9, 12}, {0, 1, 1}, {2, 5, 7}, {1, 9, 1}};
        for (int l = 0; l < 4; l++) {
            SAYS.due("put", x.put(lamps[l][0], lamps[l][1], lamps[l][2]), l + 1);
            SAYS.due("its phase", x.lamp(l, 3), 0);
            x.alter(l, 3, 11 - l);
        }
        for (int l = 0; l < 4; l++) {
            for (int what = 0; what < 3; what++) {
                SAYS.due("lamp(" + l + ", " + what + ")", x.lamp(l, what), lamps[l][what]);
            }
            SAYS.due("lamp(" + l + ", 3)", x.lamp(l, 3), 11 - l);
        }
        x.cut(2);
        SAYS.due("put where one was cut", x.put(1, 2, 3), 3);
        SAYS.due("its phase", x.lamp(2, 3), 0);
        SAYS.due("what it gives", x.lamp(2, 4), 2);
        SAYS.of(11, "BAD;");
        for (int v : new int[] {-1, 4, MIN, MAX}) {
            SAYS.due("put(" + v + ", 1, 1)", x.put(v, 1, 1), RowShutter.BAD);
        }
        for (int v : new int[] {0, 10, MIN, MAX}) {
            SAYS.due("put(0, " + v + ", 1)", x.put(0, v, 1), RowShutter.BAD);
        }
        for (int v : new int[] {0, 13, MIN, MAX}) {
            SAYS.due("put(0, 1, " + v + ")", x.put(0, 1, v), RowShutter.BAD);
        }
        SAYS.due("rule(0)", x.rule(0), 3);
    }

    private static void putFull() {
        SAYS.of(11, "FULL.");
        RowShutter x = fourLamps();
        SAYS.due("a fifth", x.put(0, 9, 9), RowShutter.FULL);
        SAYS.same("all", Account.of(x), Account.of(fourLamps()));
        RowShutter y = fourLamps();
        y.cut(3);
        SAYS.due("a fourth", y.put(0, 9, 9), 4);
        SAYS.due("a fifth", y.put(0, 9, 9), RowShutter.FULL);
    }

    private static void cut() {
        SAYS.of(12, "LAMPS are the first n alone: how many there were.");
        for (int lamps = 0; lamps <= 4; lamps++) {
            for (int n = 0; n <= lamps; n++) {
                RowShutter x = fourLamps();
                x.cut(lamps);
                SAYS.due("cut(" + n + ") of " + lamps, x.cut(n), lamps);
                SAYS.due("rule(0)", x.rule(0), n);
                SAYS.due("count(4)", x.count(4), n * (n + 1) / 2);
                for (int l = 0; l < 4; l++) {
                    SAYS.due("lamp(" + l + ", 1)", x.lamp(l, 1), l < n ? l + 1 : RowShutter.BAD);
                }
            }
        }
        SAYS.of(12, "BAD.");
        for (int lamps = 0; lamps <= 4; lamps++) {
            for (int n : new int[] {-1, lamps + 1, 5, MIN, MAX}) {
                RowShutter x = fourLamps();
                x.cut(lamps);
                SAYS.due("cut(" + n + ") of " + lamps, x.cut(n), RowShutter.BAD);
                SAYS.due("rule(0)", x.rule(0), lamps);
            }
        }
    }

    private static void rest() {
        SAYS.of(13, "n TICKS (0 to 60) go without a SHOT: TICK.");
        RowShutter x = Check.told("saw 9 9 0;");
        int tick = 0;
        for (int n = 0; n <= 60; n++) {
            tick += n;
            SAYS.due("rest(" + n + ")", x.rest(n), tick);
            SAYS.due("rule(2)", x.rule(2), tick);
            SAYS.due("rule(7)", x.rule(7), tick % 9);
        }
        SAYS.due("SHOTS", x.rule(1), 0);
        SAYS.due("row(0)", x.row(0), RowShutter.STATE);
        SAYS.of(13, "BAD;");
        for (int n : new int[] {-1, 61, MIN, MAX}) {
            SAYS.due("rest(" + n + ")", x.rest(n), RowShutter.BAD);
            SAYS.due("rule(2)", x.rule(2), tick);
        }
    }

    private static void restFull() {
        SAYS.of(13, "FULL: TICK would be 100000 or more.");
        RowShutter x = new RowShutter();
        Check.toTick(x, 99940);
        SAYS.due("rest(60) to 100000", x.rest(60), RowShutter.FULL);
        SAYS.due("rule(2)", x.rule(2), 99940);
        SAYS.due("rest(59) to 99999", x.rest(59), 99999);
        SAYS.due("rest(0) at 99999", x.rest(0), 99999);
        SAYS.due("rest(1) at 99999", x.rest(1), RowShutter.FULL);
        SAYS.due("rest(60) at 99999", x.rest(60), RowShutter.FULL);
        SAYS.due("rule(2)", x.rule(2), 99999);
        x.text();
        SAYS.due("rest(60) behind text()", x.rest(60), 60);
    }
}
