/** Promises 1 to 8, sentence by sentence, at their edges. */
public final class TextEdgeTest {
    private static final Sentences SAYS = new Sentences("TextEdgeTest", 1, 8);
    private static final int MIN = Integer.MIN_VALUE, MAX = Integer.MAX_VALUE;
    private static final String SAW = "saw 9 9 2;rows 3;delay 1;expose 1;pace 4;";

    public static void main(String[] args) {
        newObject();
        feed();
        feedFull();
        end();
        text();
        textWithAFault();
        fault();
        rule();
        lamp();
        row();
        rowIsToldByImages();
        SAYS.finish();
    }

    private static void newObject() {
        RowShutter x = new RowShutter();
        SAYS.of(1, "No LAMPS;");
        SAYS.due("rule(0)", x.rule(0), 0);
        for (int l = 0; l < 4; l++) {
            SAYS.due("lamp(" + l + ", 0)", x.lamp(l, 0), RowShutter.BAD);
        }
        SAYS.due("rule(7)", x.rule(7), 0);
        SAYS.due("count(4)", x.count(4), 0);
        SAYS.due("count(5)", x.count(5), 0);
        SAYS.of(1, "SHEETS of nothing.");
        for (int k = 0; k < 4; k++) {
            SAYS.due("lay(" + k + ", 0, 0)", x.lay(k, 0, 0), -11);
            SAYS.due("read(" + k + ", 0, 0, 1)", x.read(k, 0, 0, 1), 0);
            SAYS.due("torn()", x.torn(), 1);
        }
        SAYS.due("count(3)", x.count(3), RowShutter.NONE);
    }

    private static void feed() {
        SAYS.of(2, "A byte (0 to 127) comes behind THE TAPE: how many it has.");
        RowShutter x = new RowShutter();
        for (int c = 0; c <= 127; c++) {
            SAYS.due("feed(" + c + ")", x.feed(c), c + 1);
            SAYS.due("count(2)", x.count(2), c + 1);
        }
        SAYS.due("byte 0 is at place 0", x.text(), -10);
        Check.feed(x, "rows 5");
        SAYS.due("the seventh", x.feed(';'), 7);
        SAYS.due("text()", x.text(), 1);
        SAYS.due("rule(3)", x.rule(3), 5);
        SAYS.of(2, "BAD;");
        for (int c : new int[] {-1, 128, 256 + 'a', MIN, MAX}) {
            SAYS.due("feed(" + c + ")", x.feed(c), RowShutter.BAD);
            SAYS.due("count(2)", x.count(2), 0);
        }
    }

    private static void feedFull() {
        SAYS.of(2, "FULL: more than 160.");
        RowShutter x = new RowShutter();
        Check.feed(x, "rows 5;" + " ".repeat(152));
        SAYS.due("the 160th", x.feed(' '), 160);
        SAYS.due("one more", x.feed('#'), RowShutter.FULL);
        SAYS.due("and again", x.feed(' '), RowShutter.FULL);
        SAYS.due("count(2)", x.count(2), 160);
        SAYS.due("end(159)", x.end(159), 160);
        SAYS.due("the 160th anew", x.feed(' '), 160);
        SAYS.due("text()", x.text(), 1);
        SAYS.due("the first behind text()", x.feed(' '), 1);
    }

    private static void end() {
        SAYS.of(3, "THE TAPE keeps its first n bytes: how many it had.");
        String text = "rows 5;pace 6;";
        for (int n = 0; n <= text.length(); n++) {
            RowShutter x = new RowShutter();
            Check.feed(x, text);
            SAYS.due("end(" + n + ")", x.end(n), text.length());
            SAYS.due("count(2)", x.count(2), n);
            int due = n == 0 ? 0 : n == 7 ? 1 : n == 14 ? 2 : -10 - (n < 4 ? 0 : n > 7 && n < 11 ? 7 : n);
            SAYS.due("text() of the first " + n, x.text(), due);
        }
        RowShutter x = new RowShutter();
        SAYS.due("end(0) of nothing", x.end(0), 0);
        Check.feed(x, " ".repeat(160));
        SAYS.due("end(160) of all", x.end(160), 160);
        SAYS.due("end(0) of all", x.end(0), 160);
        Check.feed(x, "rows 5;");
        x.end(5);
        Check.feed(x, "7;");
        SAYS.due("what comes behind comes at its place", x.text(), 1);
        SAYS.due("rule(3)", x.rule(3), 7);
        SAYS.of(3, "BAD.");
        Check.feed(x, "rows 5;");
        for (int n : new int[] {-1, 8, 160, 161, MIN, MAX}) {
            SAYS.due("end(" + n + ")", x.end(n), RowShutter.BAD);
            SAYS.due("count(2)", x.count(2), 7);
        }
        x.end(6);
        SAYS.due("end(7) of 6", x.end(7), RowShutter.BAD);
    }

    private static void text() {
        SAYS.of(4, "THE TAPE (empty then)");
        RowShutter x = new RowShutter();
        for (String text : new String[] {"", "rows 5;", "rows 9;", "#", "rows", " ".repeat(160)}) {
            Check.text(x, text);
            SAYS.due("count(2) behind '" + text + "'", x.count(2), 0);
        }
        Check.text(x, "rows 5;");
        SAYS.due("text() once more is of nothing", x.text(), 0);
        SAYS.due("rule(3)", x.rule(3), 4);
        SAYS.of(4, "tells all: how many lines;");
        SAYS.due("of nothing", x.text(), 0);
        SAYS.due("of blanks", Check.text(x, "    "), 0);
        String eight = "rows 1;delay 1;expose 1;pace 1;saw 1 1 1;saw 2 2 2;saw 3 3 3;saw 4 4 4;";
        SAYS.due("of 8", Check.text(x, eight), 8);
        int at = 0;
        for (int lines = 1; lines <= 8; lines++) {
            at = eight.indexOf(';', at) + 1;
            SAYS.due("of " + lines, Check.text(new RowShutter(), eight.substring(0, at)), lines);
        }
        x.shoot(3);
        Check.text(x, SAW);
        SAYS.same("all that is told", Account.of(x), Account.of(Check.told(SAW)));
    }

    private static void textWithAFault() {
        SAYS.of(4, "-10 less the place of its FAULT:");
        for (int place = 0; place < 160; place++) {
            SAYS.due("a # at " + place, Check.text(new RowShutter(), " ".repeat(place) + "#"), -10 - place);
        }
        SAYS.due("at the end of 160", Check.text(new RowShutter(), " ".repeat(156) + "rows"), -170);
        SAYS.of(4, "that which was told stays.");
        for (String text : new String[] {"#", "rows 8;pace 1;foo", "steady 1 1 1;rows 9;", "rows 8;rows 8;", "steady 1 1 1"}) {
            RowShutter x = Check.told(SAW);
            x.shoot(2);
            x.see(0, 0, 1);
            x.keep(0);
            String told = Account.ofScene(x);
            x.back(0);
            SAYS.due("whether '" + text + "' is refused", Check.text(x, text) <= -10 ? 1 : 0, 1);
            SAYS.due("count(1)", x.count(1), 1);
            SAYS.same("what stays behind '" + text + "'", Account.ofScene(x), told);
        }
    }

    private static void fault() {
        SAYS.of(5, "The FAULT of the latest text();");
        RowShutter x = new RowShutter();
        String four = "saw 1 1 1;".repeat(4);
        String[] texts = {"#", "rows 123;", "foo", "rows", "rows 9;", "rows 1;rows 1;", four + "saw 1 1 1;"};
        int[] faults = {1, 1, 2, 2, 3, 4, 5};
        for (int i = 0; i < texts.length; i++) {
            Check.text(x, texts[i]);
            SAYS.due("of '" + texts[i] + "'", x.fault(), faults[i]);
            SAYS.due("asked again", x.fault(), faults[i]);
            Check.feed(x, "foo");
            SAYS.due("while another is fed", x.fault(), faults[i]);
            x.end(0);
        }
        SAYS.of(5, "0.");
        x.text();
        SAYS.due("of one that was taken", x.fault(), 0);
        SAYS.due("of none", new RowShutter().fault(), 0);
    }

    private static void rule() {
        SAYS.of(6, "0 LAMPS, 1 SHOTS, 2 TICK, 3 ROWS, 4 DELAY, 5 EXPOSE, 6 PACE, 7 SHINE of this TICK.");
        RowShutter x = Check.told("saw 9 9 2;steady 5 1 0;rows 3;delay 1;expose 6;pace 4;");
        x.shoot(2);
        int[] due = {2, 2, 8, 3, 1, 6, 4, 1 + 5};
        for (int what = 0; what <= 7; what++) {
            SAYS.due("rule(" + what + ")", x.rule(what), due[what]);
        }
        x.rest(7);
        SAYS.due("rule(7) of another tick", x.rule(7), 8 + 5);
        x.rest(1);
        SAYS.due("rule(7) of the tick behind", x.rule(7), 5);
        SAYS.of(6, "BAD.");
        for (int what : new int[] {-1, 8, MIN, MAX}) {
            SAYS.due("rule(" + what + ")", x.rule(what), RowShutter.BAD);
        }
    }

    private static void lamp() {
        SAYS.of(7, "Of a LAMP: 0 KIND, 1 LIGHT, 2 PERIOD, 3 PHASE, 4 what it GIVES at this TICK.");
        RowShutter x = Check.told("pair 1 2 3;saw 8 4 6;blink 7 8 9;steady 9 12 11;");
        x.rest(1);
        int[][] due = {{3, 1, 2, 3, 1}, {2, 8, 4, 6, 6}, {1, 7, 8, 9, 7}, {0, 9, 12, 11, 9}};
        for (int l = 0; l < 4; l++) {
            for (int what = 0; what <= 4; what++) {
                SAYS.due("lamp(" + l + ", " + what + ")", x.lamp(l, what), due[l][what]);
            }
        }
        SAYS.of(7, "BAD.");
        for (int v : new int[] {-1, 5, MIN, MAX}) {
            SAYS.due("lamp(0, " + v + ")", x.lamp(0, v), RowShutter.BAD);
            SAYS.due("lamp(" + v + ", 0)", x.lamp(v, 0), RowShutter.BAD);
        }
        for (int lamps = 4; lamps >= 0; lamps--) {
            x.cut(lamps);
            SAYS.due("lamp(" + lamps + ", 0) of " + lamps, x.lamp(lamps, 0), RowShutter.BAD);
            SAYS.due("lamp(" + (lamps - 1) + ", 4) of " + lamps, Math.min(0, x.lamp(lamps - 1, 4)), lamps > 0 ? 0 : RowShutter.BAD);
        }
    }

    private static void row() {
        SAYS.of(8, "How BRIGHT a ROW (0 to 7) of the latest SHOT was.");
        RowShutter x = Check.told("saw 9 9 2;rows 8;delay 1;expose 1;pace 4;");
        x.shoot(1);
        for (int r = 0; r <= 7; r++) {
            SAYS.due("row(" + r + ") of the first", x.row(r), (2 + r) % 9);
        }
        x.shoot(2);
        for (int r = 0; r <= 7; r++) {
            SAYS.due("row(" + r + ") of the third", x.row(r), (2 + 8 + r) % 9);
        }
        x.shoot(40);
        x.cut(0);
        x.tell(0, 1);
        x.rest(9);
        x.shoot(0);
        for (int r = 0; r <= 7; r++) {
            SAYS.due("row(" + r + ") of the 43rd, whatever was changed then", x.row(r), (2 + 42 * 4 + r) % 9);
        }
        SAYS.of(8, "BAD;");
        for (int r : new int[] {-1, 8, MIN, MAX}) {
            SAYS.due("row(" + r + ")", x.row(r), RowShutter.BAD);
            SAYS.due("row(" + r + ") ahead of a shot", new RowShutter().row(r), RowShutter.BAD);
        }
        SAYS.of(8, "STATE: no SHOT was taken;");
        RowShutter none = Check.told(SAW);
        none.rest(9);
        none.shoot(0);
        none.shoot(41);
        for (int r = 0; r <= 7; r++) {
            SAYS.due("row(" + r + ")", none.row(r), RowShutter.STATE);
        }
        SAYS.of(8, "NONE: it had no such ROW.");
        for (int rows = 1; rows <= 8; rows++) {
            RowShutter y = Check.told("steady 1 1 0;rows " + rows + ";");
            y.shoot(1);
            y.tell(0, 9 - rows);
            for (int r = 0; r <= 7; r++) {
                SAYS.due("row(" + r + ") of " + rows, y.row(r), r < rows ? 4 : RowShutter.NONE);
            }
        }
    }

    private static void rowIsToldByImages() {
        SAYS.of(8, "(What was the latest is told by images, too;");
        RowShutter x = Check.told(SAW);
        x.keep(0);
        x.shoot(1);
        x.keep(1);
        x.tell(0, 5);
        x.shoot(1);
        SAYS.due("row(4)", x.row(4), 1);
        SAYS.due("back(1)", x.back(1), 4);
        for (int r = 0; r < 3; r++) {
            SAYS.due("row(" + r + ") of image 1", x.row(r), 2 + r);
        }
        SAYS.due("row(3) of image 1", x.row(3), RowShutter.NONE);
        x.back(0);
        SAYS.due("row(0) of image 0", x.row(0), RowShutter.STATE);
        x.back(1);
        SAYS.due("row(0) of image 1 again", x.row(0), 2);
        SAYS.of(8, "behind text() there is none.)");
        SAYS.due("a text with a fault", Check.text(x, "rows 9;"), -15);
        SAYS.due("row(0) behind it", x.row(0), 2);
        SAYS.due("a text", Check.text(x, SAW), 5);
        SAYS.due("row(0) behind it", x.row(0), RowShutter.STATE);
        SAYS.due("row(7) behind it", x.row(7), RowShutter.STATE);
        x.shoot(1);
        SAYS.due("row(0) of the next shot", x.row(0), 2);
        x.text();
        SAYS.due("row(0) behind a text of nothing", x.row(0), RowShutter.STATE);
    }
}
