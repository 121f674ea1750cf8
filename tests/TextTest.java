/** Promises 1 to 8: a new object, the text and what can be asked of it. */
public final class TextTest {
    private static final Check CHECK = new Check("TextTest");

    public static void main(String[] args) {
        newObject();
        feed();
        end();
        textIsTaken();
        textTellsAll();
        faultOfTokens();
        faultOfPlaces();
        faultOfBounds();
        faultOfSecondTimes();
        faultOfLamps();
        faultyTextChangesNothing();
        rule();
        lamp();
        row();
        CHECK.finish();
    }

    private static void newObject() {
        RowShutter x = new RowShutter();
        int[] rules = {0, 0, 0, 4, 2, 4, 20, 0};
        for (int what = 0; what < rules.length; what++) {
            CHECK.due("rule(" + what + ") of a new object", x.rule(what), rules[what]);
        }
        int[] counts = {0, 0, 0, RowShutter.NONE, 0, 0};
        for (int what = 0; what < counts.length; what++) {
            CHECK.due("count(" + what + ") of a new object", x.count(what), counts[what]);
        }
        for (int k = 0; k < 4; k++) {
            CHECK.due("lay on nothing", x.lay(k, 0, 0), -11);
        }
        CHECK.due("fault() of a new object", x.fault(), 0);
        CHECK.due("torn() of a new object", x.torn(), 0);
        CHECK.due("row(0) of a new object", x.row(0), RowShutter.STATE);
        CHECK.due("back(0) of a new object", x.back(0), RowShutter.STATE);
        CHECK.due("lamp(0, 0) of a new object", x.lamp(0, 0), RowShutter.BAD);
    }

    private static void feed() {
        RowShutter x = new RowShutter();
        CHECK.due("feed(0)", x.feed(0), 1);
        CHECK.due("feed(127)", x.feed(127), 2);
        CHECK.due("feed(-1)", x.feed(-1), RowShutter.BAD);
        CHECK.due("feed(128)", x.feed(128), RowShutter.BAD);
        for (int i = 3; i <= 160; i++) {
            CHECK.due("feed(32)", x.feed(32), i);
        }
        CHECK.due("feed(32) on a full tape", x.feed(32), RowShutter.FULL);
        CHECK.due("feed(128) on a full tape", x.feed(128), RowShutter.BAD);
        CHECK.due("count(2) of a full tape", x.count(2), 160);
    }

    private static void end() {
        RowShutter x = new RowShutter();
        Check.feed(x, "rows 5;#");
        CHECK.due("end(-1)", x.end(-1), RowShutter.BAD);
        CHECK.due("end(9) of 8", x.end(9), RowShutter.BAD);
        CHECK.due("end(8) of 8", x.end(8), 8);
        CHECK.due("end(7) of 8", x.end(7), 8);
        CHECK.due("count(2) behind end(7)", x.count(2), 7);
        CHECK.due("end(8) of 7", x.end(8), RowShutter.BAD);
        CHECK.due("text() of the first 7", x.text(), 1);
        CHECK.due("rule(3)", x.rule(3), 5);
        Check.feed(x, "rows");
        CHECK.due("end(0)", x.end(0), 4);
        CHECK.due("end(0) of an empty tape", x.end(0), 0);
    }

    private static void textIsTaken() {
        RowShutter x = new RowShutter();
        CHECK.due("all lines", Check.text(x,
                "pace 60;steady 1 2 3;expose 20;blink 4 5 6;delay 0;saw 7 8 9;rows 8;pair 9 12 11;"), 8);
        CHECK.due("the tape is empty then", x.count(2), 0);
        CHECK.due("fault()", x.fault(), 0);
        int[][] lamps = {{0, 1, 2, 3}, {1, 4, 5, 6}, {2, 7, 8, 9}, {3, 9, 12, 11}};
        CHECK.due("rule(0)", x.rule(0), 4);
        for (int l = 0; l < 4; l++) {
            for (int what = 0; what < 4; what++) {
                CHECK.due("lamp(" + l + ", " + what + ")", x.lamp(l, what), lamps[l][what]);
            }
        }
        int[] rules = {8, 0, 20, 60};
        for (int i = 0; i < 4; i++) {
            CHECK.due("rule(" + (3 + i) + ")", x.rule(3 + i), rules[i]);
        }
        CHECK.due("no blanks", Check.text(x, "rows1;steady9 1 0;"), 2);
        CHECK.due("rule(3)", x.rule(3), 1);
        CHECK.due("many blanks, two figures", Check.text(x, "   rows   08   ;  delay 00 ; pace 01;expose 1 ; "), 4);
        CHECK.due("rule(3)", x.rule(3), 8);
        CHECK.due("rule(4)", x.rule(4), 0);
        CHECK.due("rule(5)", x.rule(5), 1);
        CHECK.due("rule(6)", x.rule(6), 1);
        CHECK.due("blanks alone", Check.text(x, "   "), 0);
    }

    private static void textTellsAll() {
        RowShutter x = Check.told("steady 5 1 0; rows 2; delay 9; expose 9; pace 9;");
        x.shoot(2);
        x.see(0, 0, 0);
        x.keep(0);
        x.keep(1);
        x.sheet(0, 0, 4);
        x.read(0, 1, 0, 1);
        CHECK.due("text() of nothing", x.text(), 0);
        int[] rules = {0, 0, 0, 4, 2, 4, 20, 0};
        for (int what = 0; what < rules.length; what++) {
            CHECK.due("rule(" + what + ") behind a text of nothing", x.rule(what), rules[what]);
        }
        CHECK.due("row(0) behind text()", x.row(0), RowShutter.STATE);
        CHECK.due("SEEN behind text()", x.count(0), 0);
        CHECK.due("IMAGES behind text()", x.count(1), 0);
        CHECK.due("back(1) behind text()", x.back(1), RowShutter.STATE);
        CHECK.due("keep(0) behind text()", x.keep(0), 0);
        CHECK.due("sheets stay", x.count(3), 4);
        CHECK.due("torn() stays", x.torn(), 3);
    }

    private static void faulty(String text, int fault, int place) {
        RowShutter x = new RowShutter();
        CHECK.due("text of '" + text + "'", Check.text(x, text), -10 - place);
        CHECK.due("fault of '" + text + "'", x.fault(), fault);
        CHECK.due("the tape behind '" + text + "'", x.count(2), 0);
    }

    private static void faultOfTokens() {
        faulty("#", 1, 0);
        faulty("rows 4; #", 1, 8);
        faulty("Rows 4;", 1, 0);
        faulty("rows\t4;", 1, 4);
        faulty("rows -1;", 1, 5);
        faulty("rows 004;", 1, 5);
        faulty("rows 4 123;", 1, 7);
        faulty("123 4;", 1, 0);
        faulty("steady 1 1 000;", 1, 11);
        faulty("rows 4,;", 1, 6);
        faulty("rowS 4;", 2, 0);
        faulty("rows 4S", 1, 6);
        faulty("{", 1, 0);
        faulty("`", 1, 0);
        faulty("rows :;", 1, 5);
        faulty("rows /;", 1, 5);
    }

    private static void faultOfPlaces() {
        faulty("foo 1;", 2, 0);
        faulty("row 1;", 2, 0);
        faulty("rowss 1;", 2, 0);
        faulty("rowsrows 1;", 2, 0);
        faulty("bows 1;", 2, 0);
        faulty("rowb 1;", 2, 0);
        faulty("5;", 2, 0);
        faulty(" ;", 2, 1);
        faulty("rows 4;;", 2, 7);
        faulty("rows 4; 5", 2, 8);
        faulty("rows", 2, 4);
        faulty("rows  ", 2, 6);
        faulty("rows 4", 2, 6);
        faulty("rows 4  ", 2, 8);
        faulty("rows 4 5;", 2, 7);
        faulty("rows rows;", 2, 5);
        faulty("rows;", 2, 4);
        faulty("steady 1 1;", 2, 10);
        faulty("steady 1 1 0 0;", 2, 13);
        faulty("steady 1 1 0 rows 4;", 2, 13);
        faulty("steady 1 1 0", 2, 12);
        faulty("rows 4;delay 2;foo", 2, 15);
    }

    private static void bounds(String head, int least, int most, String tail) {
        RowShutter x = new RowShutter();
        CHECK.due(head + least + tail, Check.text(x, head + least + tail), 1);
        CHECK.due(head + most + tail, Check.text(x, head + most + tail), 1);
        if (least > 0) {
            faulty(head + (least - 1) + tail, 3, head.length());
        }
        faulty(head + (most + 1) + tail, 3, head.length());
        faulty(head + "99", 3, head.length());
    }

    private static void faultOfBounds() {
        for (String kind : new String[] {"steady", "blink", "saw", "pair"}) {
            bounds(kind + " ", 1, 9, " 1 0;");
            bounds(kind + " 1 ", 1, 12, " 0;");
            bounds(kind + " 1 1 ", 0, 11, ";");
        }
        bounds("rows ", 1, 8, ";");
        bounds("delay ", 0, 9, ";");
        bounds("expose ", 1, 20, ";");
        bounds("pace ", 1, 60, ";");
        faulty("steady 11 0;", 3, 7);
    }

    private static void faultOfSecondTimes() {
        for (String rule : new String[] {"rows", "delay", "expose", "pace"}) {
            faulty(rule + " 1;" + rule + " 1;", 4, rule.length() + 3);
            faulty(rule + " 1;steady 1 1 0;" + rule, 4, rule.length() + 16);
            faulty(rule + " 1;" + rule + " 99;", 4, rule.length() + 3);
            faulty(rule + " 1;" + rule + "#", 4, rule.length() + 3);
        }
    }

    private static void faultOfLamps() {
        String four = "steady 1 1 0;blink 1 1 0;saw 1 1 0;pair 1 1 0;";
        faulty(four + "saw 1 1 0;", 5, four.length());
        faulty(four + "rows 4;steady", 5, four.length() + 7);
        faulty(four + "blink 0 0 99;", 5, four.length());
        faulty(four + "blinks", 2, four.length());
    }

    private static void faultyTextChangesNothing() {
        RowShutter x = Check.told("blink 5 4 1; rows 2; delay 9; expose 9; pace 9;");
        x.shoot(1);
        x.see(0, 0, 7);
        x.keep(1);
        CHECK.due("a text with a fault", Check.text(x, "steady 1 1 0; rows 8; delay 1; expose 1; pace 1; foo"), -59);
        CHECK.due("fault()", x.fault(), 2);
        int[] rules = {1, 1, 9, 2, 9, 9, 9};
        for (int what = 0; what < rules.length; what++) {
            CHECK.due("rule(" + what + ") behind a text with a fault", x.rule(what), rules[what]);
        }
        CHECK.due("lamp(0, 0)", x.lamp(0, 0), 1);
        CHECK.due("SEEN", x.count(0), 1);
        CHECK.due("IMAGES", x.count(1), 1);
        CHECK.holds("row(0) is lost behind a text with a fault", x.row(0) > 0);
        CHECK.due("a text without a fault", Check.text(x, "rows 3;"), 1);
        CHECK.due("fault()", x.fault(), 0);
    }

    private static void rule() {
        RowShutter x = Check.told("steady 9 1 0; steady 9 1 0; steady 9 1 0; pair 8 2 1; rows 3; delay 4; expose 5; pace 6;");
        x.shoot(2);
        int[] rules = {4, 2, 12, 3, 4, 5, 6, 31};
        for (int what = 0; what < rules.length; what++) {
            CHECK.due("rule(" + what + ")", x.rule(what), rules[what]);
        }
        CHECK.due("rule(-1)", x.rule(-1), RowShutter.BAD);
        CHECK.due("rule(8)", x.rule(8), RowShutter.BAD);
    }

    private static void lamp() {
        RowShutter x = Check.told("steady 7 3 2; blink 7 5 1; saw 7 4 0; pair 7 5 2;");
        // what each gives at the ticks 0 to 4: stands from its phase on, by its period
        int[][] gives = {{7, 7, 7, 7, 7}, {7, 7, 0, 0, 7}, {0, 1, 3, 5, 0}, {7, 3, 3, 7, 7}};
        for (int tick = 0; tick < 5; tick++) {
            for (int l = 0; l < 4; l++) {
                CHECK.due("lamp(" + l + ", 4) at " + tick, x.lamp(l, 4), gives[l][tick]);
            }
            CHECK.due("rule(7) at " + tick, x.rule(7), gives[0][tick] + gives[1][tick] + gives[2][tick] + gives[3][tick]);
            x.rest(1);
        }
        int[] parts = {3, 7, 5, 2};
        for (int what = 0; what < 4; what++) {
            CHECK.due("lamp(3, " + what + ")", x.lamp(3, what), parts[what]);
        }
        CHECK.due("lamp(4, 0)", x.lamp(4, 0), RowShutter.BAD);
        CHECK.due("lamp(-1, 0)", x.lamp(-1, 0), RowShutter.BAD);
        CHECK.due("lamp(0, -1)", x.lamp(0, -1), RowShutter.BAD);
        CHECK.due("lamp(0, 5)", x.lamp(0, 5), RowShutter.BAD);
        x.cut(3);
        CHECK.due("lamp(3, 0) behind cut(3)", x.lamp(3, 0), RowShutter.BAD);
    }

    private static void row() {
        RowShutter x = Check.told("saw 6 6 0; rows 3; delay 2; expose 1; pace 1;");
        CHECK.due("row(-1)", x.row(-1), RowShutter.BAD);
        CHECK.due("row(8)", x.row(8), RowShutter.BAD);
        CHECK.due("row(7) ahead of a shot", x.row(7), RowShutter.STATE);
        x.shoot(0);
        CHECK.due("row(0) behind shoot(0)", x.row(0), RowShutter.STATE);
        x.shoot(2);
        for (int r = 0; r < 3; r++) {
            CHECK.due("row(" + r + ")", x.row(r), 1 + 2 * r);
        }
        CHECK.due("row(3)", x.row(3), RowShutter.NONE);
        x.tell(0, 8);
        CHECK.due("row(3) where there are 8 now", x.row(3), RowShutter.NONE);
        x.tell(0, 1);
        CHECK.due("row(2) where there is 1 now", x.row(2), 5);
        x.cut(0);
        x.shoot(0);
        CHECK.due("row(2) behind shoot(0)", x.row(2), 5);
    }
}
