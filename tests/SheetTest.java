/** Promises 31 to 37: images, sheets, counts. */
public final class SheetTest {
    private static final Check CHECK = new Check("SheetTest");

    public static void main(String[] args) {
        keep();
        back();
        sheet();
        lay();
        lowestBits();
        read();
        readRefused();
        readTorn();
        readOfNoPairs();
        torn();
        count();
        CHECK.finish();
    }

    private static void keep() {
        RowShutter x = new RowShutter();
        CHECK.due("keep(-1)", x.keep(-1), RowShutter.BAD);
        CHECK.due("keep(2)", x.keep(2), RowShutter.BAD);
        CHECK.due("keep(0)", x.keep(0), 0);
        CHECK.due("keep(1)", x.keep(1), 0);
        CHECK.due("keep(0) again", x.keep(0), 1);
        CHECK.due("keep(1) again", x.keep(1), 1);
    }

    private static void back() {
        RowShutter x = Check.told("blink 4 4 1; saw 5 6 7; rows 2; delay 3; expose 5; pace 7;");
        x.shoot(1);
        x.see(0, 0, 4);
        x.see(1, 1, 5);
        int[] rows = {x.row(0), x.row(1)};
        int phases = x.phases(0);
        CHECK.due("back(0) of none", x.back(0), RowShutter.STATE);
        CHECK.due("back(-1)", x.back(-1), RowShutter.BAD);
        CHECK.due("back(2)", x.back(2), RowShutter.BAD);
        x.keep(0);
        changeAll(x);
        x.keep(1);
        for (int time = 0; time < 2; time++) {
            CHECK.due("back(0)", x.back(0), 7);
            int[] rules = {2, 1, 7, 2, 3, 5, 7};
            for (int what = 0; what < rules.length; what++) {
                CHECK.due("rule(" + what + ") behind back(0)", x.rule(what), rules[what]);
            }
            int[] parts = {1, 4, 4, 1, 2, 5, 6, 7};
            for (int i = 0; i < parts.length; i++) {
                CHECK.due("lamp behind back(0)", x.lamp(i / 4, i % 4), parts[i]);
            }
            CHECK.due("row(0)", x.row(0), rows[0]);
            CHECK.due("row(1)", x.row(1), rows[1]);
            CHECK.due("row(2)", x.row(2), RowShutter.NONE);
            CHECK.due("SEEN", x.count(0), 2);
            CHECK.due("phases(0)", x.phases(0), phases);
            changeAll(x);
        }
        CHECK.due("back(1)", x.back(1), 7 + 60 + 7 + 1);
        CHECK.due("LAMPS of image 1", x.rule(0), 1);
        CHECK.due("SEEN of image 1", x.count(0), 1);
        CHECK.due("IMAGES", x.count(1), 2);
    }

    private static void changeAll(RowShutter x) {
        x.rest(60);
        x.shoot(1);
        x.cut(0);
        x.put(3, 9, 12);
        x.tell(0, 8);
        x.tell(1, 0);
        x.tell(2, 1);
        x.tell(3, 1);
        x.shoot(1);
        x.forget(0);
        x.see(3, 3, 3);
    }

    private static void sheet() {
        RowShutter x = new RowShutter();
        CHECK.due("sheet(-1, 0, 1)", x.sheet(-1, 0, 1), RowShutter.BAD);
        CHECK.due("sheet(4, 0, 1)", x.sheet(4, 0, 1), RowShutter.BAD);
        CHECK.due("sheet(0, -1, 1)", x.sheet(0, -1, 1), RowShutter.BAD);
        CHECK.due("sheet(0, 3, 1)", x.sheet(0, 3, 1), RowShutter.BAD);
        CHECK.due("sheet(0, 0, 41)", x.sheet(0, 0, 41), RowShutter.BAD);
        CHECK.due("sheet(0, 0, -1)", x.sheet(0, 0, -1), -14);
        CHECK.due("sheet(4, 0, -1)", x.sheet(4, 0, -1), RowShutter.BAD);
        CHECK.due("sheet(0, 3, -1)", x.sheet(0, 3, -1), RowShutter.BAD);
        CHECK.due("sheet 0 is nothing still", x.count(3), RowShutter.NONE);
        CHECK.due("sheet(0, 0, 0)", x.sheet(0, 0, 0), 1);
        CHECK.due("its cells", x.count(3), 0);
        CHECK.due("sheet(0, 2, 40)", x.sheet(0, 2, 40), 1);
        CHECK.due("its cells", x.count(3), 40);
        CHECK.due("sheet(0, 0, -1)", x.sheet(0, 0, -1), -14);
        CHECK.due("its cells", x.count(3), 40);
        CHECK.due("sheet(3, 1, 2)", x.sheet(3, 1, 2), 1);
        CHECK.due("its cells are those of sheet 0", x.count(3), 40);
        x.put(1, 1, 1);
        x.lay(0, 0, 3);
        CHECK.due("a lamp that is not there", x.read(0, 2, 0, 1), -20);
        x.sheet(0, 2, 2);
        CHECK.due("new cells are 0", x.read(0, 2, 0, 1), 1);
    }

    private static void lay() {
        RowShutter x = new RowShutter();
        CHECK.due("lay(-1, 0, 0)", x.lay(-1, 0, 0), RowShutter.BAD);
        CHECK.due("lay(4, 0, 0)", x.lay(4, 0, 0), RowShutter.BAD);
        CHECK.due("lay on nothing", x.lay(1, 0, 0), -11);
        CHECK.due("lay on nothing, out of all bounds", x.lay(1, -5, 0), -11);
        x.sheet(1, 0, 3);
        CHECK.due("lay(1, -1, 0)", x.lay(1, -1, 0), -12);
        CHECK.due("lay(1, 3, 0)", x.lay(1, 3, 0), -12);
        CHECK.due("lay(1, 2, 0)", x.lay(1, 2, 0), 1);
        CHECK.due("lay(1, MAX, 0)", x.lay(1, Integer.MAX_VALUE, 0), -12);
        x.sheet(1, 0, 0);
        CHECK.due("lay(1, 0, 0) without cells", x.lay(1, 0, 0), -12);
    }

    /** What a cell keeps of a number is seen from whether it is a phase. */
    private static void lowestBits() {
        RowShutter x = Check.told("blink 1 1 0;");
        int[] more = {256, 65536, 0};
        for (int lane = 0; lane < 3; lane++) {
            x.sheet(2, lane, 2);
            x.lay(2, 1, more[lane] * 3 + 7);
            CHECK.due("the lowest bits are a phase", x.read(2, lane, 0, 1), 1);
            CHECK.due("lamp(0, 3)", x.lamp(0, 3), 7);
            x.lay(2, 1, more[lane] == 0 ? -1 : more[lane] - 1);
            CHECK.due("the highest of them is the sign", x.read(2, lane, 0, 1), -20);
        }
        x.sheet(2, 1, 2);
        x.lay(2, 1, 256 + 7);
        CHECK.due("a short keeps more than a byte", x.read(2, 1, 0, 1), -20);
        x.sheet(2, 2, 2);
        x.lay(2, 1, 65536 + 7);
        CHECK.due("an int keeps more than a short", x.read(2, 2, 0, 1), -20);
    }

    private static RowShutter laid(int lane, int... cells) {
        RowShutter x = Check.told("blink 1 1 1; saw 2 2 2; pair 3 3 3;");
        x.sheet(1, lane, cells.length);
        for (int i = 0; i < cells.length; i++) {
            x.lay(1, i, cells[i]);
        }
        return x;
    }

    private static void phasesAre(RowShutter x, int... phases) {
        for (int l = 0; l < phases.length; l++) {
            CHECK.due("phase of lamp " + l, x.lamp(l, 3), phases[l]);
        }
    }

    private static void read() {
        for (int lane = 0; lane < 3; lane++) {
            RowShutter x = laid(lane, 0, 5, 2, 11, 0, 6);
            CHECK.due("read(1, lane, 2, 1)", x.read(1, lane, 2, 1), 1);
            phasesAre(x, 1, 2, 11);
            CHECK.due("read(1, lane, 0, 3)", x.read(1, lane, 0, 3), 3);
            phasesAre(x, 6, 2, 11);
            CHECK.due("torn()", x.torn(), 0);
        }
        RowShutter whole = new RowShutter();
        whole.put(1, 1, 1);
        whole.sheet(3, 0, 40);
        CHECK.due("20 pairs", whole.read(3, 0, 0, 20), 20);
        CHECK.due("21 pairs", whole.read(3, 0, 0, 21), RowShutter.BAD);
        CHECK.due("read(3, 0, 0, -1)", whole.read(3, 0, 0, -1), RowShutter.BAD);
        CHECK.due("read(4, 0, 0, 1)", whole.read(4, 0, 0, 1), RowShutter.BAD);
        CHECK.due("read(-1, 0, 0, 1)", whole.read(-1, 0, 0, 1), RowShutter.BAD);
        CHECK.due("read(3, 3, 0, 1)", whole.read(3, 3, 0, 1), RowShutter.BAD);
        CHECK.due("read(3, -1, 0, 1)", whole.read(3, -1, 0, 1), RowShutter.BAD);
    }

    private static void readRefused() {
        RowShutter x = laid(0, 0, 5, 1, 6, 3, 0, 0, 12);
        CHECK.due("the third is refused", x.read(1, 0, 0, 4), -22);
        CHECK.due("the third is refused ahead of a fault", x.read(1, 0, 0, 20), -22);
        CHECK.due("the first is refused", x.read(1, 0, 6, 1), -20);
        CHECK.due("refused by its phase below 0", laid(2, 0, -1).read(1, 2, 0, 1), -20);
        CHECK.due("refused by its lamp below 0", laid(2, -1, 0).read(1, 2, 0, 1), -20);
        phasesAre(x, 1, 2, 3);
        CHECK.due("those ahead alone", x.read(1, 0, 0, 2), 2);
        phasesAre(x, 5, 6, 3);
    }

    private static void readTorn() {
        RowShutter x = laid(1, 0, 5, 1, 6, 2);
        CHECK.due("two of three are whole", x.read(1, 1, 0, 3), 2);
        CHECK.due("torn()", x.torn(), 2);
        phasesAre(x, 5, 6, 3);
        CHECK.due("from a cell below 0", x.read(1, 1, -1, 1), 0);
        CHECK.due("torn()", x.torn(), 2);
        CHECK.due("from the least int", x.read(1, 1, Integer.MIN_VALUE, 20), 0);
        CHECK.due("torn()", x.torn(), 2);
        CHECK.due("from the greatest int", x.read(1, 1, Integer.MAX_VALUE, 20), 0);
        CHECK.due("torn()", x.torn(), 2);
        CHECK.due("of another lane", x.read(1, 0, 0, 2), 0);
        CHECK.due("torn()", x.torn(), 3);
        CHECK.due("of another lane, from no cell", x.read(1, 2, -1, 2), 0);
        CHECK.due("torn()", x.torn(), 3);
        CHECK.due("of nothing", x.read(0, 0, 0, 2), 0);
        CHECK.due("torn()", x.torn(), 1);
        CHECK.due("of nothing, from no cell", x.read(0, 2, -1, 2), 0);
        CHECK.due("torn()", x.torn(), 1);
        phasesAre(x, 5, 6, 3);
    }

    /** Where nothing is read the machine finds nothing; each time a FAULT stands ahead, so that a torn() that stays shows. */
    private static void readOfNoPairs() {
        for (int lane = 0; lane <= 2; lane++) {
            RowShutter x = laid(lane, 0, 5);
            for (int as = 0; as <= 2; as++) {
                noPairs(x, "nothing", 0, as, 0);
                noPairs(x, "lane " + lane + " as of " + as, 1, as, 0);
                noPairs(x, "lane " + lane + " as of " + as + ", from no cell", 1, as, -1);
            }
            x.sheet(2, lane, 0);
            for (int as = 0; as <= 2; as++) {
                noPairs(x, "no cells of lane " + lane + " as of " + as, 2, as, 0);
            }
        }
    }

    private static void noPairs(RowShutter x, String of, int k, int as, int f) {
        x.read(3, 0, 0, 1);
        CHECK.due("torn() ahead", x.torn(), 1);
        CHECK.due("no pairs of " + of, x.read(k, as, f, 0), 0);
        CHECK.due("torn() behind no pairs of " + of, x.torn(), 0);
    }

    private static void torn() {
        RowShutter x = laid(0, 0, 5, 9, 9);
        x.read(1, 1, 0, 1);
        CHECK.due("a read that is refused", x.read(1, 0, 0, 2), -21);
        CHECK.due("torn() is of the one ahead", x.torn(), 3);
        CHECK.due("a read that is bad", x.read(1, 0, 0, 21), RowShutter.BAD);
        CHECK.due("torn() is of the one ahead", x.torn(), 3);
        CHECK.due("a read that is whole", x.read(1, 0, 0, 1), 1);
        CHECK.due("torn()", x.torn(), 0);
    }

    private static void count() {
        RowShutter x = Check.told("steady 9 12 0; blink 8 11 0; saw 7 10 0;");
        CHECK.due("count(4)", x.count(4), 24);
        CHECK.due("count(5)", x.count(5), 33);
        x.cut(2);
        CHECK.due("count(4)", x.count(4), 17);
        CHECK.due("count(5)", x.count(5), 23);
        x.see(0, 0, 0);
        CHECK.due("count(0)", x.count(0), 1);
        CHECK.due("count(1)", x.count(1), 0);
        x.keep(1);
        CHECK.due("count(1)", x.count(1), 1);
        x.keep(0);
        CHECK.due("count(1)", x.count(1), 2);
        x.feed('#');
        CHECK.due("count(2)", x.count(2), 1);
        CHECK.due("count(3)", x.count(3), RowShutter.NONE);
        x.sheet(0, 1, 7);
        CHECK.due("count(3)", x.count(3), 7);
        CHECK.due("count(-1)", x.count(-1), RowShutter.BAD);
        CHECK.due("count(6)", x.count(6), RowShutter.BAD);
    }
}
