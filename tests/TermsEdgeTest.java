/** What the document says under 'Terms', on which all promises rest, sentence by sentence. */
public final class TermsEdgeTest {
    private static final Sentences SAYS = new Sentences("TermsEdgeTest", Sentences.TERMS, Sentences.TERMS);
    private static final int T = Sentences.TERMS;
    private static final String FOUR = "steady 1 1 0;blink 1 1 0;saw 1 1 0;pair 1 1 0;";

    public static void main(String[] args) {
        answers();
        theFirstThatFits();
        refused();
        fractions();
        lamps();
        rules();
        stand();
        gives();
        shine();
        tape();
        tokens();
        names();
        lines();
        faultsInTheirOrder();
        faultOfTokens();
        faultOfPlaces();
        faultOfBounds();
        faultOfSecondTimes();
        faultOfLamps();
        taken();
        rowsOfShots();
        mostOfARow();
        bands();
        shotsGoOn();
        byShots();
        seen();
        sheets();
        faultsOfTheMachine();
        SAYS.finish();
    }

    private static void answers() {
        SAYS.of(T, "Answers: BAD -1 (a number is not as told, there is no such LAMP, ROW, IMAGE, SHEET)");
        RowShutter x = new RowShutter();
        SAYS.due("BAD", RowShutter.BAD, -1);
        SAYS.due("rule(8)", x.rule(8), -1);
        SAYS.due("lamp(0, 0)", x.lamp(0, 0), -1);
        SAYS.due("row(8)", x.row(8), -1);
        SAYS.due("ahead(0, 4) of 4 rows", x.ahead(0, 4), -1);
        SAYS.due("keep(2)", x.keep(2), -1);
        SAYS.due("back(2)", x.back(2), -1);
        SAYS.due("sheet(4, 0, 1)", x.sheet(4, 0, 1), -1);
        SAYS.due("luck(11, 1, 1, 0)", x.luck(11, 1, 1, 0), -1L);
        SAYS.of(T, "STATE -2 (as told)");
        SAYS.due("STATE", RowShutter.STATE, -2);
        SAYS.due("row(0)", x.row(0), -2);
        SAYS.due("drift(1, 1, 0)", x.drift(1, 1, 0), -2);
        SAYS.due("back(1)", x.back(1), -2);
        SAYS.of(T, "NONE -4 (there is none)");
        SAYS.due("NONE", RowShutter.NONE, -4);
        SAYS.due("runs(0, 1)", x.runs(0, 1), -4);
        SAYS.due("when(1)", x.when(1), -4);
        SAYS.due("out(1, 0)", x.out(1, 0), -4);
        SAYS.due("count(3)", x.count(3), -4);
        SAYS.of(T, "FULL -3");
        SAYS.due("FULL", RowShutter.FULL, -3);
        for (int i = 0; i < 4; i++) {
            x.put(0, 1, 1);
        }
        SAYS.due("put(0, 1, 1)", x.put(0, 1, 1), -3);
    }

    private static void theFirstThatFits() {
        SAYS.of(T, "the first that fits");
        RowShutter x = new RowShutter();
        SAYS.due("BAD ahead of STATE: row(8)", x.row(8), -1);
        SAYS.due("BAD ahead of STATE: back(2)", x.back(2), -1);
        SAYS.due("BAD ahead of STATE: drift(1, 41, 0)", x.drift(1, 41, 0), -1);
        SAYS.due("BAD ahead of STATE: drift(1, 1, 2)", x.drift(1, 1, 2), -1);
        SAYS.due("STATE ahead of NONE: row(7)", x.row(7), -2);
        SAYS.due("BAD ahead of NONE: runs(41, 1)", x.runs(41, 1), -1);
        SAYS.due("BAD ahead of NONE: runs(0, 4)", x.runs(0, 4), -1);
        SAYS.due("BAD ahead of NONE: when(256)", x.when(256), -1);
        SAYS.due("BAD ahead of NONE: out(41, 0)", x.out(41, 0), -1);
        SAYS.due("BAD ahead of NONE: out(0, 2)", x.out(0, 2), -1);
        SAYS.due("BAD ahead of SIZE: sheet(4, 0, -1)", x.sheet(4, 0, -1), -1);
        SAYS.due("BAD ahead of SIZE: sheet(0, 3, -1)", x.sheet(0, 3, -1), -1);
        SAYS.due("BAD ahead of NULL: lay(4, 0, 0)", x.lay(4, 0, 0), -1);
        SAYS.due("BAD ahead of NULL: read(0, 0, 0, 21)", x.read(0, 0, 0, 21), -1);
        RowShutter full = Check.told(FOUR);
        SAYS.due("BAD ahead of NONE: ask(0, 2) where no look parts", full.ask(0, 2), -1);
        SAYS.due("BAD ahead of FULL: put(4, 1, 1)", full.put(4, 1, 1), -1);
        SAYS.due("BAD ahead of FULL: put(0, 10, 1)", full.put(0, 10, 1), -1);
        SAYS.due("BAD ahead of FULL: put(0, 1, 13)", full.put(0, 1, 13), -1);
        for (int i = 0; i < 6; i++) {
            full.see(0, 0, 0);
        }
        SAYS.due("BAD ahead of FULL: see(21, 0, 0)", full.see(21, 0, 0), -1);
        SAYS.due("BAD ahead of FULL: see(0, 8, 0)", full.see(0, 8, 0), -1);
        SAYS.due("BAD ahead of FULL: see(0, 0, 256)", full.see(0, 0, 256), -1);
        Check.toTick(full, 99999);
        SAYS.due("BAD ahead of FULL: rest(61)", full.rest(61), -1);
        SAYS.due("BAD ahead of FULL: shoot(41)", full.shoot(41), -1);
        RowShutter tape = new RowShutter();
        Check.feed(tape, " ".repeat(160));
        SAYS.due("BAD ahead of FULL: feed(128)", tape.feed(128), -1);
    }

    /** RefusedTest holds every call to it; here is one of each kind of answer. */
    private static void refused() {
        SAYS.of(T, "what is refused changes nothing (but THE TAPE, as told).");
        RowShutter x = Check.told(FOUR);
        SAYS.due("alter(0, 1, 10)", x.alter(0, 1, 10), -1);
        SAYS.due("lamp(0, 1)", x.lamp(0, 1), 1);
        SAYS.due("put(0, 9, 9)", x.put(0, 9, 9), -3);
        SAYS.due("lamp(3, 1)", x.lamp(3, 1), 1);
        SAYS.due("back(0)", x.back(0), -2);
        SAYS.due("rule(0)", x.rule(0), 4);
        SAYS.due("a text with a fault", Check.text(x, "rows 8; #"), -18);
        SAYS.due("rule(3)", x.rule(3), 4);
        SAYS.due("THE TAPE is empty all the same", x.count(2), 0);
    }

    private static void fractions() {
        RowShutter x = Check.told("saw 9 9 1; steady 1 1 0; rows 2; delay 1; expose 1; pace 9;");
        SAYS.of(T, "Fractions are in lowest terms");
        // its bands are 1: all is well if it fails, by v of ten
        long[][] terms = {{0, 1}, {1, 10}, {1, 5}, {3, 10}, {2, 5}, {1, 2}, {3, 5}, {7, 10}, {4, 5}, {9, 10}, {1, 1}};
        for (int v = 0; v <= 10; v++) {
            SAYS.due("luck(" + v + ", 1, 0, 0)", x.luck(v, 1, 0, 0), terms[v][0]);
            SAYS.due("luck(" + v + ", 1, 0, 1)", x.luck(v, 1, 0, 1), terms[v][1]);
        }
        // 1 and 2 by the saw, 2 by the steady one: 5 less v times 3 by ten
        long[][] means = {{5, 1}, {47, 10}, {22, 5}, {41, 10}, {19, 5}, {7, 2}, {16, 5}, {29, 10}, {13, 5}, {23, 10}, {2, 1}};
        for (int v = 0; v <= 10; v++) {
            SAYS.due("mean(" + v + ", 1, 0)", x.mean(v, 1, 0), means[v][0]);
            SAYS.due("mean(" + v + ", 1, 1)", x.mean(v, 1, 1), means[v][1]);
        }
        SAYS.of(T, "the denominator above 0 (0 is 0 by 1).");
        SAYS.due("luck(0, 8, 0, 0)", x.luck(0, 8, 0, 0), 0);
        SAYS.due("luck(0, 8, 0, 1)", x.luck(0, 8, 0, 1), 1);
        SAYS.due("mean(5, 0, 0)", x.mean(5, 0, 0), 0);
        SAYS.due("mean(5, 0, 1)", x.mean(5, 0, 1), 1);
        x.cut(0);
        SAYS.due("mean(5, 8, 0) without a lamp", x.mean(5, 8, 0), 0);
        SAYS.due("mean(5, 8, 1) without a lamp", x.mean(5, 8, 1), 1);
    }

    private static void lamps() {
        SAYS.of(T, "LAMPS 0 on (4 at most, by order)");
        RowShutter x = new RowShutter();
        for (int l = 0; l < 4; l++) {
            SAYS.due("put", x.put(0, 5 + l, 1), l + 1);
        }
        SAYS.due("a fifth", x.put(0, 1, 1), RowShutter.FULL);
        for (int l = 0; l < 4; l++) {
            SAYS.due("lamp(" + l + ", 1)", x.lamp(l, 1), 5 + l);
        }
        SAYS.due("lamp(4, 1)", x.lamp(4, 1), RowShutter.BAD);
        SAYS.of(T, "each of a KIND (0 steady, 1 blink, 2 saw, 3 pair)");
        String[] names = {"steady", "blink", "saw", "pair"};
        for (int kind = 0; kind < 4; kind++) {
            SAYS.due(names[kind], Check.told(names[kind] + " 1 1 0;").lamp(0, 0), kind);
        }
        SAYS.due("put(-1, 1, 1)", new RowShutter().put(-1, 1, 1), RowShutter.BAD);
        SAYS.due("put(4, 1, 1)", new RowShutter().put(4, 1, 1), RowShutter.BAD);
        SAYS.of(T, "with a LIGHT (1 to 9)");
        part(1, 1, 9, "steady ", " 1 0;");
        SAYS.of(T, "a PERIOD (1 to 12)");
        part(2, 1, 12, "steady 1 ", " 0;");
        SAYS.of(T, "a PHASE (0 to 11).");
        part(3, 0, 11, "steady 1 1 ", ";");
    }

    private static void part(int what, int least, int most, String head, String tail) {
        for (int v = least; v <= most; v++) {
            SAYS.due(head + v + tail, Check.told(head + v + tail).lamp(0, what), v);
        }
        RowShutter x = Check.told(FOUR);
        SAYS.due("alter below", x.alter(0, what, least - 1), RowShutter.BAD);
        SAYS.due("alter above", x.alter(0, what, most + 1), RowShutter.BAD);
        x.alter(0, what, least);
        SAYS.due("alter from the least", x.alter(0, what, most), least);
        SAYS.due("alter from the most", x.alter(0, what, least), most);
        faulty(head + (most + 1) + tail, 3, head.length());
        if (least > 0) {
            faulty(head + (least - 1) + tail, 3, head.length());
        }
    }

    private static void rules() {
        SAYS.of(T, "ROWS (1 to 8; 4 at first)");
        ruled(0, "rows ", 1, 8, 4);
        SAYS.of(T, "DELAY (0 to 9; 2 at first)");
        ruled(1, "delay ", 0, 9, 2);
        SAYS.of(T, "EXPOSE (1 to 20; 4 at first)");
        ruled(2, "expose ", 1, 20, 4);
        SAYS.of(T, "PACE (1 to 60; 20 at first).");
        ruled(3, "pace ", 1, 60, 20);
        SAYS.of(T, "TICK, SHOTS (0 at first).");
        SAYS.due("rule(2)", new RowShutter().rule(2), 0);
        SAYS.due("rule(1)", new RowShutter().rule(1), 0);
    }

    private static void ruled(int what, String head, int least, int most, int atFirst) {
        RowShutter x = new RowShutter();
        SAYS.due("at first", x.rule(3 + what), atFirst);
        for (int v = least; v <= most; v++) {
            x.tell(what, v);
            SAYS.due("told " + v, x.rule(3 + what), v);
            SAYS.due(head + v + ";", Check.told(head + v + ";").rule(3 + what), v);
        }
        SAYS.due("tell below", x.tell(what, least - 1), RowShutter.BAD);
        SAYS.due("tell above", x.tell(what, most + 1), RowShutter.BAD);
        SAYS.due("then", x.rule(3 + what), most);
        faulty(head + (most + 1) + ";", 3, head.length());
        if (least > 0) {
            faulty(head + (least - 1) + ";", 3, head.length());
        }
    }

    private static RowShutter lit(int kind, int light, int period, int phase) {
        RowShutter x = new RowShutter();
        x.put(kind, light, period);
        x.alter(0, 3, phase);
        return x;
    }

    /** A saw whose LIGHT is its PERIOD gives its STAND. */
    private static void stand() {
        SAYS.of(T, "STAND of a LAMP at a TICK: what TICK and PHASE leave by PERIOD.");
        for (int period = 1; period <= 9; period++) {
            for (int phase = 0; phase <= 11; phase++) {
                RowShutter x = lit(2, period, period, phase);
                for (int tick = 0; tick <= 20; tick++) {
                    SAYS.due("period " + period + ", phase " + phase + ", tick " + tick, x.lamp(0, 4), (tick + phase) % period);
                    x.rest(1);
                }
            }
        }
        RowShutter last = lit(2, 7, 7, 11);
        Check.toTick(last, 99999);
        SAYS.due("period 7, phase 11, tick 99999", last.lamp(0, 4), 1);
    }

    private static void gives() {
        SAYS.of(T, "It GIVES, by KIND: steady LIGHT;");
        everyStand(0);
        SAYS.of(T, "blink as a steady one, if twice its STAND is less than PERIOD, else nothing;");
        everyStand(1);
        SAYS.due("a period of 1 has no dark stand", lit(1, 9, 1, 5).lamp(0, 4), 9);
        SAYS.due("half of an even period is dark", lit(1, 9, 12, 6).lamp(0, 4), 0);
        SAYS.due("ahead of it is light", lit(1, 9, 12, 5).lamp(0, 4), 9);
        SAYS.due("the middle of an odd period is light", lit(1, 9, 11, 5).lamp(0, 4), 9);
        SAYS.due("behind it is dark", lit(1, 9, 11, 6).lamp(0, 4), 0);
        SAYS.of(T, "saw LIGHT times STAND by PERIOD (down);");
        everyStand(2);
        SAYS.due("9 times 11 by 12", lit(2, 9, 12, 11).lamp(0, 4), 8);
        SAYS.due("1 times 11 by 12", lit(2, 1, 12, 11).lamp(0, 4), 0);
        SAYS.due("9 times 0 by 1", lit(2, 9, 1, 11).lamp(0, 4), 0);
        SAYS.of(T, "pair as a blink one, but half of LIGHT (down) where that gives nothing.");
        everyStand(3);
        SAYS.due("half of 1", lit(3, 1, 2, 1).lamp(0, 4), 0);
        SAYS.due("half of 2", lit(3, 2, 2, 1).lamp(0, 4), 1);
        SAYS.due("half of 9", lit(3, 9, 2, 1).lamp(0, 4), 4);
        SAYS.due("a period of 1 gives all", lit(3, 9, 1, 1).lamp(0, 4), 9);
    }

    private static void everyStand(int kind) {
        int[] lightStands = {0, 1, 1, 2, 2, 3, 3, 4, 4, 5, 5, 6, 6};
        int[] halves = {0, 0, 1, 1, 2, 2, 3, 3, 4, 4};
        for (int light = 1; light <= 9; light++) {
            for (int period = 1; period <= 12; period++) {
                for (int stand = 0; stand < period; stand++) {
                    boolean early = stand < lightStands[period];
                    int due = kind == 0 || early ? light : kind == 1 ? 0 : halves[light];
                    if (kind == 2) {
                        due = light * stand / period;
                    }
                    SAYS.due("light " + light + ", stand " + stand + " of " + period,
                            lit(kind, light, period, stand).lamp(0, 4), due);
                }
            }
        }
    }

    private static void shine() {
        SAYS.of(T, "SHINE of a TICK: what all LAMPS GIVE at it, summed.");
        SAYS.due("of no lamp", new RowShutter().rule(7), 0);
        SAYS.due("of four, the most", Check.told("steady 9 1 0;blink 9 1 0;pair 9 1 0;steady 9 9 9;").rule(7), 36);
        SAYS.due("of one of each kind", Check.told("steady 1 1 0;blink 2 2 0;saw 9 3 1;pair 8 2 1;").rule(7), 1 + 2 + 3 + 4);
    }

    private static void faulty(String text, int fault, int place) {
        RowShutter x = new RowShutter();
        SAYS.due("text of '" + text + "'", Check.text(x, text), -10 - place);
        SAYS.due("fault of '" + text + "'", x.fault(), fault);
    }

    private static void fits(String text, int lines) {
        SAYS.due("text of '" + text + "'", Check.text(new RowShutter(), text), lines);
    }

    private static void tape() {
        SAYS.of(T, "THE TAPE has 160 bytes, places from 0.");
        fits("rows 8;" + " ".repeat(153), 1);
        fits(" ".repeat(153) + "rows 8;", 1);
        fits(" ".repeat(160), 0);
        faulty("#", 1, 0);
        faulty(" ".repeat(159) + "#", 1, 159);
        faulty(" ".repeat(159) + ";", 2, 159);
        faulty(" ".repeat(156) + "rows", 2, 160);
        RowShutter x = new RowShutter();
        Check.feed(x, " ".repeat(153) + "rows 8");
        SAYS.due("the 160th", x.feed(';'), 160);
        SAYS.due("one more", x.feed('#'), RowShutter.FULL);
        SAYS.due("text()", x.text(), 1);
    }

    private static void tokens() {
        SAYS.of(T, "TOKENS, each as long as may be");
        faulty("rowspace 1;", 2, 0);
        faulty("rowsrows 1;", 2, 0);
        faulty("rows 12;", 3, 5);
        faulty("steady 1 11;", 2, 11);
        faulty("steady 111;", 1, 7);
        fits("rows8;steady9 12 11;", 2);
        faulty("rows8pace 1;", 2, 5);
        SAYS.of(T, "blanks (32) between");
        fits("   rows   8   ;   pace   1   ;   ", 2);
        fits("rows8;pace1;", 2);
        faulty("ro ws 8;", 2, 0);
        faulty("rows 0 8;", 3, 5);
        faulty("rows 1 2;", 2, 7);
        for (int c : new int[] {0, 9, 10, 11, 12, 13, 31, 33}) {
            faulty("rows" + (char) c + "8;", 1, 4);
        }
    }

    private static void names() {
        SAYS.of(T, "NAMES (a .. z), NUMBERS (1 or 2 figures), one ; .");
        for (int c = 0; c <= 127; c++) {
            boolean letter = c >= 'a' && c <= 'z';
            boolean figure = c >= '0' && c <= '9';
            if (c == ' ') {
                fits(" ", 0);
                faulty("rows 8 ", 2, 7);
            } else if (c == ';') {
                faulty(";", 2, 0);
                fits("rows 8;", 1);
            } else {
                faulty(String.valueOf((char) c), letter || figure ? 2 : 1, 0);
                faulty("rows 8" + (char) c, letter ? 2 : figure ? 3 : 1, figure ? 5 : 6);
            }
        }
        fits("rows 8;delay 0;expose 20;", 3);
        fits("rows 08;delay 00;expose 01;", 3);
        faulty("rows 008;", 1, 5);
        faulty("delay 000;", 1, 6);
        faulty("expose 9999999999;", 1, 7);
        faulty("rows 8;;", 2, 7);
    }

    private static void lines() {
        SAYS.of(T, "text: { line }");
        fits("", 0);
        fits("rows 8;", 1);
        fits(FOUR + "rows 1;delay 1;expose 1;pace 1;", 8);
        fits("pace 1;" + FOUR + "rows 1;", 6);
        faulty("rows 8", 2, 6);
        SAYS.of(T, "line: steady N N N ; | blink N N N ; | saw N N N ; | pair N N N ; |");
        for (String name : new String[] {"steady", "blink", "saw", "pair"}) {
            int at = name.length();
            fits(name + " 9 12 11;", 1);
            faulty(name + ";", 2, at);
            faulty(name + " 9;", 2, at + 2);
            faulty(name + " 9 9;", 2, at + 4);
            faulty(name + " 9 9 9 9;", 2, at + 7);
            faulty(name + " 9 9 9", 2, at + 6);
            faulty(name + " 9 9 9 " + name, 2, at + 7);
        }
        SAYS.of(T, "rows N ; | delay N ; | expose N ; | pace N ;");
        for (String name : new String[] {"rows", "delay", "expose", "pace"}) {
            int at = name.length();
            fits(name + " 8;", 1);
            faulty(name + ";", 2, at);
            faulty(name + " 8 8;", 2, at + 3);
            faulty(name + " 8", 2, at + 2);
            faulty(name + " 8 " + name, 2, at + 3);
        }
        SAYS.of(T, "steady, blink, saw, pair: a LAMP more of that KIND: LIGHT, PERIOD, PHASE.");
        RowShutter x = Check.told("pair 1 2 3;saw 4 5 6;blink 7 8 9;steady 9 12 11;");
        int[][] parts = {{3, 1, 2, 3}, {2, 4, 5, 6}, {1, 7, 8, 9}, {0, 9, 12, 11}};
        for (int i = 0; i < 16; i++) {
            SAYS.due("lamp(" + i / 4 + ", " + i % 4 + ")", x.lamp(i / 4, i % 4), parts[i / 4][i % 4]);
        }
        SAYS.of(T, "rows, delay, expose, pace: as named.");
        RowShutter y = Check.told("pace 5;expose 6;delay 7;rows 8;");
        for (int i = 0; i < 4; i++) {
            SAYS.due("rule(" + (3 + i) + ")", y.rule(3 + i), 8 - i);
        }
    }

    private static void faultsInTheirOrder() {
        SAYS.of(T, "FAULTS, the first met as it is read (a TOKEN is read when the one before has been taken):");
        faulty("foo #", 2, 0);
        faulty("foo 123", 2, 0);
        faulty("rows 9#", 3, 5);
        faulty("rows 9 123", 3, 5);
        faulty("rows 8 #", 1, 7);
        faulty("rows # 9", 1, 5);
        faulty("rows ; #", 2, 5);
        faulty("rows 8;rows #", 4, 7);
        faulty("rows 8;rows 9;", 4, 7);
        faulty("rows 8;rows", 4, 7);
        faulty("rows 9;rows 8;", 3, 5);
        faulty("rows rows 8;", 2, 5);
        faulty("steady 0 0 12;", 3, 7);
        faulty("steady 9 0 12;", 3, 9);
        faulty("steady 9 9 12;", 3, 11);
        faulty("steady 0 #", 3, 7);
        faulty("steady 9 # 12", 1, 9);
        faulty(FOUR + "saw #", 5, FOUR.length());
        faulty(FOUR + "saw 0 0 12;", 5, FOUR.length());
        faulty(FOUR + "saw", 5, FOUR.length());
        faulty(FOUR + "rows 9;saw 1 1 1;", 3, FOUR.length() + 5);
        faulty("rows 1;" + FOUR + "saw 1 1 1;rows 1;", 5, FOUR.length() + 7);
        faulty("rows 1;" + FOUR + "rows 1;saw 1 1 1;", 4, FOUR.length() + 7);
    }

    private static void faultOfTokens() {
        SAYS.of(T, "1 no TOKEN, a NUMBER that is too long (its first byte).");
        faulty("ROWS 8;", 1, 0);
        faulty("rows 8:", 1, 6);
        faulty("rows -1;", 1, 5);
        faulty("rows +1;", 1, 5);
        faulty("rows 8.", 1, 6);
        faulty("rows 100;", 1, 5);
        faulty("  100", 1, 2);
        faulty("rows 8 100;", 1, 7);
        faulty("rows 8; 100", 1, 8);
        faulty("steady 1 100 1;", 1, 9);
        faulty("rows" + (char) 127 + "8;", 1, 4);
    }

    private static void faultOfPlaces() {
        SAYS.of(T, "2 a TOKEN that can not stand there (a NAME that begins no line; or the end: the length).");
        faulty("a", 2, 0);
        faulty("row 8;", 2, 0);
        faulty("rowss 8;", 2, 0);
        faulty("stead 1 1 1;", 2, 0);
        faulty("kind 1;", 2, 0);
        faulty("tick 1;", 2, 0);
        faulty("8;", 2, 0);
        faulty(";", 2, 0);
        faulty("rows rows;", 2, 5);
        faulty("rows foo;", 2, 5);
        faulty("rows 8 foo;", 2, 7);
        faulty("rows", 2, 4);
        faulty("rows   ", 2, 7);
        faulty("rows 8", 2, 6);
        faulty("rows 8  ", 2, 8);
        faulty("saw", 2, 3);
        faulty("saw 1", 2, 5);
        faulty("saw 1 1", 2, 7);
        faulty("saw 1 1 1", 2, 9);
        namesThatAreNone();
    }

    /** Each name but for a letter: another one, one less, one more. */
    private static void namesThatAreNone() {
        String[] names = {"steady", "blink", "saw", "pair", "rows", "delay", "expose", "pace"};
        for (int i = 0; i < names.length; i++) {
            String numbers = i < 4 ? " 1 1 1;" : " 1;";
            for (int at = 0; at < names[i].length(); at++) {
                String head = names[i].substring(0, at);
                String tail = names[i].substring(at + 1);
                faulty(head + "z" + tail + numbers, 2, 0);
                faulty(head + tail + numbers, 2, 0);
                faulty(head + names[i].charAt(at) + "z" + tail + numbers, 2, 0);
            }
            faulty("z" + names[i] + numbers, 2, 0);
        }
    }

    private static void faultOfBounds() {
        SAYS.of(T, "3 a NUMBER out of its bounds.");
        faulty("rows 0;", 3, 5);
        faulty("rows 9;", 3, 5);
        faulty("delay 10;", 3, 6);
        faulty("expose 0;", 3, 7);
        faulty("expose 21;", 3, 7);
        faulty("pace 0;", 3, 5);
        faulty("pace 61;", 3, 5);
        faulty("pace 00;", 3, 5);
        faulty("pace 99;", 3, 5);
        faulty("steady 0 1 0;", 3, 7);
        faulty("blink 10 1 0;", 3, 6);
        faulty("saw 1 0 0;", 3, 6);
        faulty("pair 1 13 0;", 3, 7);
        faulty("steady 1 1 12;", 3, 11);
    }

    private static void faultOfSecondTimes() {
        SAYS.of(T, "4 rows, delay, expose, pace for the second time (its NAME).");
        for (String name : new String[] {"rows", "delay", "expose", "pace"}) {
            int behind = name.length() + 3;
            faulty(name + " 1;" + name + " 1;", 4, behind);
            faulty(name + " 1;  " + name + " 2;", 4, behind + 2);
            faulty(name + " 1;saw 1 1 1;" + name + " 1;", 4, behind + 10);
        }
        fits("rows 1;delay 1;expose 1;pace 1;", 4);
        fits("saw 1 1 1;saw 1 1 1;saw 1 1 1;saw 1 1 1;", 4);
        RowShutter x = Check.told("rows 1;");
        SAYS.due("the second time in another text", Check.text(x, "rows 2;"), 1);
    }

    private static void faultOfLamps() {
        SAYS.of(T, "5 the 5th LAMP (its NAME).");
        fits(FOUR, 4);
        for (String name : new String[] {"steady", "blink", "saw", "pair"}) {
            faulty(FOUR + name + " 1 1 1;", 5, FOUR.length());
            faulty(FOUR + "rows 1; " + name + " 1 1 1;", 5, FOUR.length() + 8);
        }
        RowShutter x = Check.told(FOUR);
        SAYS.due("four in another text", Check.text(x, FOUR), 4);
    }

    private static RowShutter laden() {
        RowShutter x = Check.told("saw 9 9 3;pair 5 7 2;rows 3;delay 1;expose 3;pace 7;");
        x.shoot(2);
        x.rest(5);
        x.see(0, 0, 1);
        x.keep(0);
        x.keep(1);
        // what is asked of shots ahead must not come back by a text
        x.best(3, 2, 0);
        x.phases(0);
        return x;
    }

    private static void taken() {
        SAYS.of(T, "A text that is taken tells all, in place of what there was;");
        RowShutter x = laden();
        Check.text(x, "blink 1 2 3;delay 9;");
        SAYS.same("all behind a text", Account.of(x), Account.of(Check.told("blink 1 2 3;delay 9;")));
        RowShutter empty = laden();
        SAYS.due("a text of nothing", empty.text(), 0);
        SAYS.same("all behind a text of nothing", Account.of(empty), Account.of(new RowShutter()));
        SAYS.of(T, "nothing is SEEN;");
        RowShutter seen = laden();
        SAYS.due("count(0) ahead", seen.count(0), 1);
        Check.text(seen, "saw 9 9 3;");
        SAYS.due("count(0)", seen.count(0), 0);
        SAYS.due("phases(0)", seen.phases(0), 4095);
        SAYS.of(T, "IMAGES are gone.");
        RowShutter images = laden();
        SAYS.due("count(1) ahead", images.count(1), 2);
        images.text();
        SAYS.due("count(1)", images.count(1), 0);
        SAYS.due("back(0)", images.back(0), RowShutter.STATE);
        SAYS.due("back(1)", images.back(1), RowShutter.STATE);
        SAYS.due("keep(0)", images.keep(0), 0);
        RowShutter kept = laden();
        Check.text(kept, "rows 9;");
        SAYS.due("count(1) behind a text with a fault", kept.count(1), 2);
    }

    private static void rowsOfShots() {
        SAYS.of(T, "A SHOT: ROW r (0 to ROWS less 1)");
        for (int rows = 1; rows <= 8; rows++) {
            RowShutter x = Check.told("steady 1 1 0;rows " + rows + ";");
            x.shoot(1);
            SAYS.due("row 0 of " + rows, x.row(0), 4);
            SAYS.due("the last row of " + rows, x.row(rows - 1), 4);
            SAYS.due("a row behind the last of " + rows, x.row(rows), rows < 8 ? RowShutter.NONE : RowShutter.BAD);
        }
        SAYS.of(T, "is as BRIGHT as the SHINES of EXPOSE TICKS, summed");
        for (int expose = 1; expose <= 20; expose++) {
            // in e ticks a blink one of period 2 gives 3 at every other, the first among them
            RowShutter x = Check.told("steady 5 1 0;blink 3 2 0;expose " + expose + ";");
            x.shoot(1);
            SAYS.due("of " + expose + " ticks", x.row(0), 5 * expose + 3 * ((expose + 1) / 2));
        }
        SAYS.of(T, "the first of them DELAY times r behind TICK.");
        for (int delay = 0; delay <= 9; delay++) {
            RowShutter x = Check.told("saw 9 9 0;expose 1;rows 8;delay " + delay + ";");
            x.rest(4);
            x.shoot(1);
            for (int r = 0; r < 8; r++) {
                SAYS.due("row " + r + " by a delay of " + delay, x.row(r), (4 + delay * r) % 9);
            }
        }
    }

    private static void mostOfARow() {
        SAYS.of(T, "(255 at most)");
        // 25 in each of 10 ticks; the blink one is lit in 4, 5 or 6 of them
        int[] phases = {4, 1, 0};
        int[] brights = {254, 255, 255};
        for (int i = 0; i < 3; i++) {
            RowShutter x = Check.told("steady 9 1 0;steady 9 1 0;steady 7 1 0;blink 1 12 " + phases[i] + ";rows 1;expose 10;");
            SAYS.due("254 and " + i + " more, ahead", x.ahead(0, 0), brights[i]);
            SAYS.due("254 and " + i + " more, whether it is full", x.runs(1, 3), brights[i] / 255);
            x.shoot(1);
            SAYS.due("254 and " + i + " more", x.row(0), brights[i]);
        }
        RowShutter most = Check.told("steady 9 1 0;steady 9 1 0;steady 9 1 0;steady 9 1 0;expose 20;");
        SAYS.due("720", most.ahead(0, 0), 255);
    }

    private static void bands() {
        SAYS.of(T, "BANDS: the brightest ROW less the darkest one.");
        SAYS.due("of one row", Check.told("saw 9 9 5;rows 1;expose 1;").shoot(1), 0);
        SAYS.due("of rows without a lamp", new RowShutter().shoot(1), 0);
        // stands 6, 8, 1, 3: neither the first nor the last row is brightest or darkest
        SAYS.due("of rows 6, 8, 1, 3", Check.told("saw 9 9 6;rows 4;delay 2;expose 1;").shoot(1), 7);
        SAYS.due("of rows 5, 6", Check.told("saw 9 9 5;rows 2;delay 1;expose 1;").shoot(1), 1);
        SAYS.due("of rows 8, 0", Check.told("saw 9 9 8;rows 2;delay 1;expose 1;").shoot(1), 8);
        String four = "blink 9 12 0;blink 9 12 0;blink 9 12 0;blink 9 12 0;";
        SAYS.due("of rows 216, 0", Check.told(four + "rows 2;delay 6;expose 6;").shoot(1), 216);
        SAYS.due("of rows 360, told as 255, and 216", Check.told(four + "rows 2;delay 6;expose 16;").shoot(1), 39);
        SAYS.due("of rows 432 and 288, told as 255", Check.told(four + "rows 2;delay 6;expose 20;").shoot(1), 0);
    }

    private static void shotsGoOn() {
        SAYS.of(T, "TICK is PACE more, SHOTS is 1 more.");
        for (int pace = 1; pace <= 60; pace++) {
            RowShutter x = Check.told("pace " + pace + ";");
            x.rest(3);
            x.shoot(1);
            SAYS.due("TICK by a pace of " + pace, x.rule(2), 3 + pace);
            SAYS.due("SHOTS", x.rule(1), 1);
        }
    }

    private static void byShots() {
        SAYS.of(T, "BY SHOTS: as it would be from now on;");
        String text = "saw 9 11 3;pair 5 7 2;rows 3;delay 1;expose 3;pace 13;";
        RowShutter x = Check.told(text);
        x.rest(5);
        x.shoot(1);
        RowShutter y = Check.told(text);
        Check.toTick(y, 18);
        for (int r = 0; r < 3; r++) {
            SAYS.due("ahead(0, " + r + ") at the same tick", x.ahead(0, r), y.ahead(0, r));
        }
        SAYS.due("SHOTS", x.rule(1), 1);
        SAYS.due("TICK", x.rule(2), 18);
        SAYS.of(T, "SHOT n is the one behind n more (0: this one).");
        for (int n = 0; n <= 40; n++) {
            RowShutter asked = Check.told(text);
            int[] ahead = {asked.ahead(n, 0), asked.ahead(n, 1), asked.ahead(n, 2)};
            asked.shoot(n);
            asked.shoot(1);
            for (int r = 0; r < 3; r++) {
                SAYS.due("ahead(" + n + ", " + r + ")", ahead[r], asked.row(r));
            }
        }
    }

    private static void seen() {
        SAYS.of(T, "SEEN (6):");
        RowShutter x = Check.told("saw 9 9 3;");
        for (int i = 1; i <= 6; i++) {
            SAYS.due("see", x.see(0, 0, 1), i);
        }
        SAYS.due("a seventh", x.see(0, 0, 1), RowShutter.FULL);
        SAYS.due("count(0)", x.count(0), 6);
        SAYS.of(T, "in SHOT n (0 to 20) from now on a ROW is v BRIGHT.");
        for (int n = 0; n <= 20; n++) {
            RowShutter y = Check.told("saw 9 9 3;rows 2;delay 1;expose 1;pace 1;");
            y.see(n, 1, (3 + n + 1) % 9);
            // phase 3; by a period of 9 phase 12 would do as well, but there is none
            SAYS.due("phases(0) of shot " + n, y.phases(0), 1 << 3);
            y.rest(1);
            SAYS.due("phases(0) a tick on", y.phases(0), 1 << 2 | 1 << 11);
        }
        SAYS.due("see(21, 0, 0)", new RowShutter().see(21, 0, 0), RowShutter.BAD);
        SAYS.due("see(-1, 0, 0)", new RowShutter().see(-1, 0, 0), RowShutter.BAD);
    }

    private static void sheets() {
        SAYS.of(T, "SHEETS 0 to 3 are rows of BYTES (lane 0), SHORTS (1), INTS (2)");
        int[] sizes = {1 << 8, 1 << 16};
        for (int k = 0; k <= 3; k++) {
            for (int lane = 0; lane <= 2; lane++) {
                RowShutter x = Check.told("saw 1 1 0;");
                SAYS.due("sheet(" + k + ", " + lane + ", 2)", x.sheet(k, lane, 2), 1);
                for (int size = 0; size < 2; size++) {
                    x.lay(k, 1, sizes[size] + 5);
                    SAYS.due("a phase of " + sizes[size] + " and 5", x.read(k, lane, 0, 1), lane <= size ? 1 : -20);
                }
            }
        }
        SAYS.due("sheet(-1, 0, 2)", new RowShutter().sheet(-1, 0, 2), RowShutter.BAD);
        SAYS.due("sheet(4, 0, 2)", new RowShutter().sheet(4, 0, 2), RowShutter.BAD);
        SAYS.due("sheet(0, -1, 2)", new RowShutter().sheet(0, -1, 2), RowShutter.BAD);
        SAYS.due("sheet(0, 3, 2)", new RowShutter().sheet(0, 3, 2), RowShutter.BAD);
        SAYS.of(T, "with 0 to 40 CELLS");
        for (int lane = 0; lane <= 2; lane++) {
            for (int n = 0; n <= 40; n++) {
                RowShutter x = new RowShutter();
                x.sheet(0, lane, n);
                SAYS.due("cells", x.count(3), n);
                SAYS.due("the first", x.lay(0, 0, 1), n > 0 ? 1 : -12);
                SAYS.due("the last", x.lay(0, n - 1, 1), n > 0 ? 1 : -12);
                SAYS.due("behind the last", x.lay(0, n, 1), -12);
            }
            SAYS.due("41 cells", new RowShutter().sheet(0, lane, 41), RowShutter.BAD);
        }
        SAYS.of(T, "or nothing (at first).");
        for (int k = 0; k <= 3; k++) {
            SAYS.due("lay(" + k + ", 0, 0)", new RowShutter().lay(k, 0, 0), -11);
        }
        SAYS.due("count(3)", new RowShutter().count(3), RowShutter.NONE);
    }

    private static void faultsOfTheMachine() {
        SAYS.of(T, "A FAULT is what the machine finds: 1 NULL (nothing)");
        RowShutter x = Check.told("saw 1 1 0;");
        SAYS.due("lay on nothing", x.lay(0, 0, 0), -11);
        SAYS.due("read of nothing", x.read(0, 0, 0, 1), 0);
        SAYS.due("torn()", x.torn(), 1);
        x.sheet(0, 0, 3);
        SAYS.of(T, "2 INDEX");
        SAYS.due("lay(0, 3, 0)", x.lay(0, 3, 0), -12);
        SAYS.due("lay(0, -1, 0)", x.lay(0, -1, 0), -12);
        SAYS.due("read(0, 0, 2, 1)", x.read(0, 0, 2, 1), 0);
        SAYS.due("torn()", x.torn(), 2);
        SAYS.of(T, "3 CAST (another lane)");
        for (int lane = 0; lane <= 2; lane++) {
            x.sheet(1, lane, 2);
            for (int as = 0; as <= 2; as++) {
                SAYS.due("read of lane " + lane + " as of " + as, x.read(1, as, 0, 1), lane == as ? 1 : 0);
                SAYS.due("torn()", x.torn(), lane == as ? 0 : 3);
            }
        }
        SAYS.of(T, "4 SIZE (below 0).");
        SAYS.due("sheet(0, 0, -1)", x.sheet(0, 0, -1), -14);
        SAYS.due("sheet(0, 0, MIN)", x.sheet(0, 0, Integer.MIN_VALUE), -14);
        SAYS.due("sheet(0, 0, 0)", x.sheet(0, 0, 0), 1);
    }
}
