/** Promises 25 to 30, sentence by sentence, at their edges. */
public final class RowsEdgeTest {
    private static final Sentences SAYS = new Sentences("RowsEdgeTest", 25, 30);
    private static final int MIN = Integer.MIN_VALUE, MAX = Integer.MAX_VALUE;
    /** ROW r of SHOT n is as BRIGHT as 3 + n + r leaves by 9. */
    private static final String SAW = "saw 9 9 3;rows 2;delay 1;expose 1;pace 1;";
    private static final String BLINK = "blink 4 4 0;rows 1;delay 1;expose 1;pace 1;";
    private static final String LAST_PLACE =
            "blink 7 10 11;pair 9 12 11;steady 3 1 10;steady 5 6 7;rows 8;delay 2;expose 15;pace 1;";

    public static void main(String[] args) {
        see();
        seeRefuses();
        forget();
        kinds();
        kindsOfNoRow();
        phases();
        askPlaces();
        askIsTheBest();
        askFewerThanNow();
        askRefuses();
        drift();
        driftBySeeds();
        driftChangesNothing();
        driftRefuses();
        SAYS.finish();
    }

    private static void see() {
        SAYS.of(25, "SEEN: in SHOT n (0 to 20)");
        for (int n = 0; n <= 20; n++) {
            RowShutter x = Check.told(SAW);
            SAYS.due("see(" + n + ", 0, v)", x.see(n, 0, (3 + n) % 9), 1);
            SAYS.due("phases(0)", x.phases(0), 1 << 3);
        }
        SAYS.of(25, "ROW r (0 to 7)");
        for (int r = 0; r <= 7; r++) {
            RowShutter x = Check.told("saw 9 9 3;rows 8;delay 1;expose 1;pace 1;");
            SAYS.due("see(0, " + r + ", v)", x.see(0, r, (3 + r) % 9), 1);
            SAYS.due("phases(0)", x.phases(0), 1 << 3);
            RowShutter none = Check.told("saw 9 9 3;rows 1;");
            SAYS.due("see(0, " + r + ", 0) of one row", none.see(0, r, 0), 1);
        }
        SAYS.of(25, "is v (0 to 255) BRIGHT:");
        RowShutter x = Check.told("steady 9 1 0;steady 6 1 0;rows 1;expose 17;");
        SAYS.due("see(0, 0, 255)", x.see(0, 0, 255), 1);
        SAYS.due("phases(0)", x.phases(0), 4095);
        x.forget(0);
        SAYS.due("see(0, 0, 254)", x.see(0, 0, 254), 1);
        SAYS.due("phases(0)", x.phases(0), 0);
        RowShutter dark = new RowShutter();
        dark.put(2, 1, 1);
        SAYS.due("see(0, 0, 0)", dark.see(0, 0, 0), 1);
        SAYS.due("phases(0)", dark.phases(0), 4095);
        SAYS.of(25, "how many are.");
        RowShutter many = new RowShutter();
        for (int i = 1; i <= 6; i++) {
            SAYS.due("see", many.see(i, 0, 0), i);
            SAYS.due("count(0)", many.count(0), i);
        }
    }

    private static void seeRefuses() {
        SAYS.of(25, "BAD;");
        RowShutter x = Check.told(SAW);
        for (int n : new int[] {-1, 21, MIN, MAX}) {
            SAYS.due("see(" + n + ", 0, 0)", x.see(n, 0, 0), RowShutter.BAD);
        }
        for (int r : new int[] {-1, 8, MIN, MAX}) {
            SAYS.due("see(0, " + r + ", 0)", x.see(0, r, 0), RowShutter.BAD);
        }
        for (int v : new int[] {-1, 256, MIN, MAX}) {
            SAYS.due("see(0, 0, " + v + ")", x.see(0, 0, v), RowShutter.BAD);
        }
        SAYS.due("count(0)", x.count(0), 0);
        SAYS.of(25, "FULL.");
        for (int i = 0; i < 6; i++) {
            x.see(0, 0, 3);
        }
        SAYS.due("a seventh that does not fit", x.see(0, 0, 4), RowShutter.FULL);
        SAYS.due("count(0)", x.count(0), 6);
        SAYS.due("phases(0)", x.phases(0), 1 << 3);
        x.forget(5);
        SAYS.due("a sixth", x.see(0, 0, 4), 6);
        SAYS.due("phases(0)", x.phases(0), 0);
        SAYS.due("a seventh", x.see(0, 0, 3), RowShutter.FULL);
    }

    private static void forget() {
        SAYS.of(26, "SEEN are the first n alone: how many there were.");
        for (int had = 0; had <= 6; had++) {
            for (int n = 0; n <= had; n++) {
                RowShutter x = Check.told(SAW);
                for (int i = 0; i < had; i++) {
                    // the last one speaks against the others
                    x.see(i, 0, i == had - 1 ? 8 : (3 + i) % 9);
                }
                SAYS.due("forget(" + n + ") of " + had, x.forget(n), had);
                SAYS.due("count(0)", x.count(0), n);
                int all = had == 0 || n == 0 ? 4095 : n < had ? 1 << 3 : had == 1 ? 1 << 8 : had == 6 ? 1 << 3 : 0;
                SAYS.due("phases(0)", x.phases(0), all);
            }
        }
        SAYS.of(26, "BAD.");
        for (int had = 0; had <= 6; had++) {
            for (int n : new int[] {-1, had + 1, 7, MIN, MAX}) {
                RowShutter x = Check.told(SAW);
                for (int i = 0; i < had; i++) {
                    x.see(i, 0, 0);
                }
                SAYS.due("forget(" + n + ") of " + had, x.forget(n), RowShutter.BAD);
                SAYS.due("count(0)", x.count(0), had);
            }
        }
    }

    private static void kinds() {
        SAYS.of(27, "KINDS of a LAMP (bits) by which, all else as it is, all is as SEEN.");
        // at stand 1 of 2: steady 4, blink 0, saw 2, pair 2; at stand 0: 4, 4, 0, 4
        String text = "steady 4 2 1;rows 2;delay 1;expose 1;pace 2;";
        int[][] bits = {{4, 1}, {0, 2}, {2, 4 | 8}, {3, 0}};
        for (int[] one : bits) {
            RowShutter x = Check.told(text);
            x.see(0, 0, one[0]);
            SAYS.due("kinds(0) where row 0 is " + one[0], x.kinds(0), one[1]);
        }
        RowShutter x = Check.told(text);
        SAYS.due("kinds(0) of nothing SEEN", x.kinds(0), 15);
        x.see(0, 1, 4);
        SAYS.due("kinds(0)", x.kinds(0), 1 | 2 | 8);
        x.see(20, 0, 2);
        SAYS.due("kinds(0)", x.kinds(0), 8);
        x.see(20, 0, 4);
        SAYS.due("kinds(0) where two speak against each other", x.kinds(0), 0);
        SAYS.due("lamp(0, 0)", x.lamp(0, 0), 0);
        x.forget(2);
        x.put(0, 1, 1);
        SAYS.due("kinds(0) where there is light beside", x.kinds(0), 0);
        x.cut(1);
        x.alter(0, 3, 0);
        SAYS.due("kinds(0) by another phase", x.kinds(0), 0);
        x.rest(1);
        SAYS.due("kinds(0) a tick on", x.kinds(0), 8);
        RowShutter last = Check.told("steady 1 1 0;steady 1 1 0;steady 1 1 0;saw 4 2 1;rows 1;expose 1;");
        last.see(0, 0, 7);
        SAYS.due("kinds(3)", last.kinds(3), 1);
        SAYS.of(27, "BAD.");
        for (int l : new int[] {-1, 1, 2, 3, 4, MIN, MAX}) {
            SAYS.due("kinds(" + l + ") of one", x.kinds(l), RowShutter.BAD);
        }
        SAYS.due("kinds(0) without a lamp", new RowShutter().kinds(0), RowShutter.BAD);
        SAYS.due("kinds(4) of four", last.kinds(4), RowShutter.BAD);
    }

    private static void kindsOfNoRow() {
        SAYS.of(27, "(A ROW that there is not is never as SEEN.)");
        for (int rows = 1; rows <= 7; rows++) {
            for (int v : new int[] {0, 4, 255}) {
                RowShutter x = Check.told("saw 1 1 0;rows " + rows + ";");
                x.see(0, rows, v);
                SAYS.due("kinds(0) where row " + rows + " of " + rows + " is " + v, x.kinds(0), 0);
                SAYS.due("phases(0)", x.phases(0), 0);
                SAYS.due("ask(0, 0)", x.ask(0, 0), RowShutter.NONE);
                x.tell(0, rows + 1);
                SAYS.due("kinds(0) where it is there", x.kinds(0), v == 0 ? 4 : v == 4 ? 1 | 2 | 8 : 0);
            }
        }
        RowShutter x = Check.told("steady 1 1 0;");
        x.see(0, 7, 4);
        x.forget(0);
        SAYS.due("kinds(0) where it is forgotten", x.kinds(0), 15);
    }

    private static void phases() {
        SAYS.of(28, "PHASES of a LAMP (bits 0 to 11) by which, all else as it is, all is as SEEN.");
        for (int phase = 0; phase <= 11; phase++) {
            RowShutter x = Check.told("saw 9 9 0;rows 1;expose 1;");
            x.see(0, 0, phase % 9);
            int due = 0;
            for (int p = phase % 9; p <= 11; p += 9) {
                due |= 1 << p;
            }
            SAYS.due("phases(0) where it is " + phase % 9, x.phases(0), due);
        }
        RowShutter x = Check.told(BLINK);
        SAYS.due("phases(0) of nothing SEEN", x.phases(0), 4095);
        x.see(0, 0, 4);
        SAYS.due("phases(0)", x.phases(0), 0x333);
        x.see(20, 0, 4);
        x.see(1, 0, 0);
        SAYS.due("phases(0)", x.phases(0), 0x222);
        x.see(0, 0, 0);
        SAYS.due("phases(0) where two speak against each other", x.phases(0), 0);
        x.forget(1);
        x.alter(0, 3, 7);
        SAYS.due("phases(0), whichever it is", x.phases(0), 0x333);
        SAYS.due("lamp(0, 3)", x.lamp(0, 3), 7);
        x.put(0, 1, 1);
        SAYS.due("phases(0) where there is light beside", x.phases(0), 0);
        SAYS.due("phases(1)", x.phases(1), 0);
        x.alter(0, 3, 2);
        x.alter(1, 1, 4);
        SAYS.due("phases(1) of a steady one", x.phases(1), 4095);
        SAYS.of(28, "BAD.");
        for (int l : new int[] {-1, 2, 3, 4, MIN, MAX}) {
            SAYS.due("phases(" + l + ") of two", x.phases(l), RowShutter.BAD);
        }
        SAYS.due("phases(0) without a lamp", new RowShutter().phases(0), RowShutter.BAD);
    }

    private static void ask(String text, int l, int place, int left) {
        RowShutter x = Check.told(text);
        SAYS.due("ask(" + l + ", 0) of " + text, x.ask(l, 0), place);
        SAYS.due("ask(" + l + ", 1) of " + text, x.ask(l, 1), left);
    }

    private static void askPlaces() {
        SAYS.of(29, "The SHOT (0 to 20), the ROW at which to look how BRIGHT it is");
        ask(SAW, 0, 0, 2);
        ask("saw 5 9 1;rows 8;delay 1;expose 1;pace 32;", 0, 7, 3);
        ask("saw 8 7 3;steady 3 4 8;blink 7 1 6;saw 4 5 5;rows 1;delay 0;expose 18;pace 3;", 0, 200, 4);
        ask(LAST_PLACE, 0, 207, 7);
        // a round of 35 ticks, less one PACE: the look that leaves 4 is in SHOT 21 now
        RowShutter early = Check.told("saw 8 7 3;steady 3 4 8;blink 7 1 6;saw 4 5 5;rows 1;delay 0;expose 18;pace 3;");
        early.rest(32);
        SAYS.due("ask(0, 0), where SHOT 21 would be better", early.ask(0, 0), 160);
        SAYS.due("ask(0, 1), where SHOT 21 would be better", early.ask(0, 1), 5);
        // the look at ROW 7 of SHOT 20, a shot later
        RowShutter past = Check.told(LAST_PLACE);
        past.shoot(1);
        SAYS.due("ask(0, 0) a shot on", past.ask(0, 0), 197);
        RowShutter less = Check.told(LAST_PLACE);
        less.tell(0, 7);
        SAYS.due("ask(0, 0) where there is no row 7", less.ask(0, 0) != 207 ? 1 : 0, 1);
        SAYS.of(29, "10 times the SHOT and the ROW, of several the least (what 0)");
        // each ROW of each SHOT begins at the same stand: all looks part alike
        ask("saw 9 9 3;rows 8;delay 9;expose 1;pace 9;", 0, 0, 2);
        RowShutter x = Check.told(BLINK);
        x.see(0, 0, 4);
        SAYS.due("ask(0, 0)", x.ask(0, 0), 10);
        x.tell(0, 8);
        SAYS.due("ask(0, 0) of eight rows", x.ask(0, 0), 1);
        SAYS.of(29, "how many these are (1).");
        SAYS.due("ask(0, 1)", x.ask(0, 1), 3);
        ask("blink 4 12 0;rows 1;expose 1;", 0, 0, 6);
    }

    /** How many of the PHASES in fits are left at the worst, if a ROW is so BRIGHT by each. */
    private static int worst(int[] brights, int fits) {
        int worst = 0;
        for (int p = 0; p <= 11; p++) {
            int alike = 0;
            for (int q = 0; q <= 11; q++) {
                if ((fits >> p & 1) == 1 && (fits >> q & 1) == 1 && brights[p] == brights[q]) {
                    alike++;
                }
            }
            worst = Math.max(worst, alike);
        }
        return worst;
    }

    private static void askIsTheBest() {
        SAYS.of(29, "so that of phases() of a LAMP fewest are left at the worst");
        String[] texts = {SAW, BLINK, LAST_PLACE, "saw 9 12 0;pair 5 7 3;rows 3;delay 2;expose 3;pace 5;",
            "blink 3 5 0;saw 9 11 4;pair 9 4 1;rows 2;delay 1;expose 12;pace 7;"};
        for (String text : texts) {
            for (int l = 0; l < Check.told(text).rule(0); l++) {
                for (int seen = 0; seen <= 1; seen++) {
                    askAgainstAll(text, l, seen);
                }
            }
        }
    }

    private static void askAgainstAll(String text, int l, int seen) {
        RowShutter x = Check.told(text);
        for (int i = 0; i < seen; i++) {
            x.see(i, 0, x.ahead(i, 0));
        }
        int fits = x.phases(l);
        int fewest = Integer.bitCount(fits);
        int place = RowShutter.NONE;
        int rows = x.rule(3);
        RowShutter[] by = new RowShutter[12];
        for (int p = 0; p <= 11; p++) {
            by[p] = Check.told(text);
            by[p].alter(l, 3, p);
        }
        for (int n = 0; n <= 20; n++) {
            for (int r = 0; r < rows; r++) {
                int[] brights = new int[12];
                for (int p = 0; p <= 11; p++) {
                    brights[p] = by[p].ahead(n, r);
                }
                int worst = worst(brights, fits);
                if (worst < fewest) {
                    fewest = worst;
                    place = 10 * n + r;
                }
            }
        }
        SAYS.due("ask(" + l + ", 0) of " + text, x.ask(l, 0), place);
        SAYS.due("ask(" + l + ", 1) of " + text, x.ask(l, 1), place == RowShutter.NONE ? place : fewest);
    }

    private static void askFewerThanNow() {
        SAYS.of(29, "fewer than now:");
        RowShutter x = Check.told("saw 9 9 3;rows 1;expose 1;");
        x.see(0, 0, 3);
        SAYS.due("phases(0)", x.phases(0), 1 << 3);
        SAYS.due("ask(0, 0) where one is left", x.ask(0, 0), RowShutter.NONE);
        x.forget(0);
        x.see(0, 0, 2);
        SAYS.due("phases(0)", x.phases(0), 1 << 2 | 1 << 11);
        SAYS.due("ask(0, 0) where two are left that are alike for ever", x.ask(0, 0), RowShutter.NONE);
        SAYS.due("ask(0, 1) where two are left that are alike for ever", x.ask(0, 1), RowShutter.NONE);
        SAYS.of(29, "NONE: none.");
        x.see(0, 0, 3);
        SAYS.due("ask(0, 0) where none is left", x.ask(0, 0), RowShutter.NONE);
        SAYS.due("ask(0, 1) where none is left", x.ask(0, 1), RowShutter.NONE);
        SAYS.due("ask(0, 0) of a steady one", Check.told("steady 9 9 3;").ask(0, 0), RowShutter.NONE);
        SAYS.due("ask(0, 0) by a period of 1", Check.told("blink 9 1 3;").ask(0, 0), RowShutter.NONE);
    }

    private static void askRefuses() {
        SAYS.of(29, "BAD;");
        RowShutter x = Check.told(SAW);
        for (int l : new int[] {-1, 1, 2, 3, 4, MIN, MAX}) {
            SAYS.due("ask(" + l + ", 0) of one", x.ask(l, 0), RowShutter.BAD);
        }
        for (int what : new int[] {-1, 2, MIN, MAX}) {
            SAYS.due("ask(0, " + what + ")", x.ask(0, what), RowShutter.BAD);
        }
        SAYS.due("ask(0, 0) without a lamp", new RowShutter().ask(0, 0), RowShutter.BAD);
    }

    /** So many saws whose LIGHT and PERIOD are 9, at phases 5, 7, 2, 10: each gives its STAND. */
    private static RowShutter saws(int lamps, String rules) {
        String text = "saw 9 9 5;saw 9 9 7;saw 9 9 2;saw 9 9 10;";
        return Check.told(text.substring(0, lamps == 4 ? text.length() : 10 * lamps) + rules);
    }

    private static int[] plainDrift(int lamps, int seed, int n, int tick) {
        int[] phases = {5, 7, 2, 10};
        long state = seed & 0xffffffffL;
        int greatest = 0;
        int sum = 0;
        for (int shot = 0; shot < n; shot++) {
            state = state * 1103515245L + 12345L & 0xffffffffL;
            int got = 0;
            for (int bit = 30; bit >= 16; bit--) {
                got = 2 * got + (int) (state >> bit & 1);
            }
            phases[got % lamps] = got / 8 % 12;
            int[] rows = new int[2];
            for (int l = 0; l < lamps; l++) {
                rows[0] += (tick + 7 * shot + phases[l]) % 9;
                rows[1] += (tick + 7 * shot + 1 + phases[l]) % 9;
            }
            greatest = Math.max(greatest, Math.abs(rows[0] - rows[1]));
            sum += rows[0] + rows[1];
        }
        return new int[] {greatest, sum};
    }

    private static void drift() {
        SAYS.of(30, "By itself, n SHOTS (1 to 40) by a seed:");
        for (int n = 1; n <= 40; n++) {
            RowShutter x = saws(3, "rows 2;delay 1;expose 1;pace 7;");
            x.rest(4);
            int[] due = plainDrift(3, 1234567, n, 4);
            SAYS.due("drift(1234567, " + n + ", 0)", x.drift(1234567, n, 0), due[0]);
            SAYS.due("drift(1234567, " + n + ", 1)", x.drift(1234567, n, 1), due[1]);
        }
        SAYS.of(30, "the greatest BANDS of them (what 0)");
        SAYS.due("of one row", saws(4, "rows 1;").drift(1, 40, 0), 0);
        SAYS.due("of two", saws(4, "rows 2;delay 1;expose 1;pace 7;").drift(1, 40, 0), plainDrift(4, 1, 40, 0)[0]);
        SAYS.of(30, "how BRIGHT all ROWS are, summed (1).");
        String full = "steady 9 1 0;steady 9 1 0;steady 9 1 0;steady 9 1 0;rows 8;expose 20;";
        SAYS.due("of full rows", Check.told(full).drift(1, 40, 1), 40 * 8 * 255);
        SAYS.due("of two", saws(4, "rows 2;delay 1;expose 1;pace 7;").drift(1, 40, 1), plainDrift(4, 1, 40, 0)[1]);
    }

    private static void driftBySeeds() {
        SAYS.of(30, "ahead of each the seed becomes seed times 1103515245 and 12345; bits 16 to 30 of it are got:");
        for (int seed : new int[] {0, 1, -1, 2, 65535, 65536, 1 << 30, MIN, MIN + 1, MAX, MAX - 1, 1103515245, -12345}) {
            for (int n : new int[] {1, 2, 40}) {
                RowShutter x = saws(1, "rows 2;delay 1;expose 1;pace 7;");
                SAYS.due("drift(" + seed + ", " + n + ", 1)", x.drift(seed, n, 1), plainDrift(1, seed, n, 0)[1]);
                SAYS.due("drift(" + seed + ", " + n + ", 0)", x.drift(seed, n, 0), plainDrift(1, seed, n, 0)[0]);
            }
        }
        SAYS.of(30, "PHASE of LAMP got modulo LAMPS becomes got by 8 (down) modulo 12:");
        for (int lamps = 1; lamps <= 4; lamps++) {
            for (int seed = 0; seed < 200; seed++) {
                RowShutter x = saws(lamps, "rows 2;delay 1;expose 1;pace 7;");
                int[] due = plainDrift(lamps, seed * 7919, 3, 0);
                SAYS.due(lamps + " lamps, seed " + seed * 7919, x.drift(seed * 7919, 3, 1), due[1]);
                SAYS.due(lamps + " lamps, seed " + seed * 7919, x.drift(seed * 7919, 3, 0), due[0]);
            }
        }
    }

    private static void driftChangesNothing() {
        SAYS.of(30, "By itself");
        String rules = "rows 2;delay 1;expose 1;pace 7;";
        RowShutter x = saws(4, rules);
        x.drift(1, 40, 0);
        x.drift(2, 40, 1);
        SAYS.same("all", Account.of(x), Account.of(saws(4, rules)));
        RowShutter last = saws(4, rules);
        Check.toTick(last, 99999);
        SAYS.due("at the last tick", last.drift(3, 40, 1), plainDrift(4, 3, 40, 99999)[1]);
    }

    private static void driftRefuses() {
        SAYS.of(30, "BAD;");
        for (RowShutter x : new RowShutter[] {saws(2, ""), new RowShutter()}) {
            for (int n : new int[] {-1, 0, 41, MIN, MAX}) {
                SAYS.due("drift(1, " + n + ", 0)", x.drift(1, n, 0), RowShutter.BAD);
            }
            for (int what : new int[] {-1, 2, MIN, MAX}) {
                SAYS.due("drift(1, 1, " + what + ")", x.drift(1, 1, what), RowShutter.BAD);
            }
        }
        SAYS.of(30, "STATE: there are no LAMPS.");
        SAYS.due("drift(1, 1, 0)", new RowShutter().drift(1, 1, 0), RowShutter.STATE);
        RowShutter x = saws(2, "");
        x.cut(1);
        SAYS.due("drift(1, 1, 0) of one", x.drift(1, 1, 0) >= 0 ? 1 : 0, 1);
        x.cut(0);
        SAYS.due("drift(1, 40, 1) of none", x.drift(1, 40, 1), RowShutter.STATE);
    }
}
