/** Promises 19 to 22: what is best. */
public final class BestTest {
    private static final Check CHECK = new Check("BestTest");

    public static void main(String[] args) {
        delay();
        expose();
        pace();
        bestRefuses();
        kind();
        phase();
        out();
        nothingIsChanged();
        CHECK.finish();
    }

    private static void delay() {
        RowShutter x = Check.told("saw 6 6 0; rows 2; delay 1; expose 1; pace 1;");
        CHECK.due("best(1, 1, 0)", x.best(1, 1, 0), 0);
        CHECK.due("best(1, 1, 1)", x.best(1, 1, 1), 0);
        CHECK.due("best(1, 0, 0)", x.best(1, 0, 0), 0);
    }

    private static void expose() {
        RowShutter x = Check.told("saw 6 6 0; rows 2; delay 1; expose 1; pace 1;");
        // with e ticks the second row has stand e in place of stand 0: they differ by e up to 5, by nothing at 6
        CHECK.due("best(2, 1, 0)", x.best(2, 1, 0), 6);
        CHECK.due("best(2, 1, 1)", x.best(2, 1, 1), 0);
        CHECK.due("best(2, 40, 0)", x.best(2, 40, 0), 6);
        CHECK.due("best(2, 0, 0)", x.best(2, 0, 0), 1);
        CHECK.due("best(2, 0, 1)", x.best(2, 0, 1), 0);
        x.put(0, 9, 1);
        x.put(0, 9, 1);
        x.put(0, 9, 1);
        x.alter(0, 1, 9);
        x.alter(0, 2, 12);
        x.alter(0, 3, 2);
        // 27 in each tick and the saw rising: the rows differ until both are full, at 9 ticks (at 8: 246 and 252)
        CHECK.due("best(2, 1, 0) by full rows", x.best(2, 1, 0), 9);
        x.alter(0, 0, 1);
        x.alter(0, 2, 2);
        CHECK.due("best(2, 1, 0) of a blink one", x.best(2, 1, 0), 2);
    }

    private static void pace() {
        RowShutter x = Check.told("saw 6 6 4; rows 2; delay 1; expose 1; pace 1;");
        // bands are 1, but 5 from stand 5 on, which a pace of 1 meets in the second shot
        CHECK.due("best(3, 1, 0)", x.best(3, 1, 0), 1);
        CHECK.due("best(3, 2, 0)", x.best(3, 2, 0), 2);
        CHECK.due("best(3, 2, 1)", x.best(3, 2, 1), 1);
        CHECK.due("best(3, 40, 0)", x.best(3, 40, 0), 2);
        x.alter(0, 3, 5);
        CHECK.due("best(3, 2, 0) from stand 5", x.best(3, 2, 0), 1);
        CHECK.due("best(3, 2, 1) from stand 5", x.best(3, 2, 1), 5);
        CHECK.due("best(3, 0, 0)", x.best(3, 0, 0), 1);
        CHECK.due("best(3, 0, 1)", x.best(3, 0, 1), 0);
    }

    private static void bestRefuses() {
        RowShutter x = new RowShutter();
        CHECK.due("best(0, 1, 0)", x.best(0, 1, 0), RowShutter.BAD);
        CHECK.due("best(4, 1, 0)", x.best(4, 1, 0), RowShutter.BAD);
        CHECK.due("best(1, -1, 0)", x.best(1, -1, 0), RowShutter.BAD);
        CHECK.due("best(1, 41, 0)", x.best(1, 41, 0), RowShutter.BAD);
        CHECK.due("best(1, 1, -1)", x.best(1, 1, -1), RowShutter.BAD);
        CHECK.due("best(1, 1, 2)", x.best(1, 1, 2), RowShutter.BAD);
        CHECK.due("best(2, 40, 0) without a lamp", x.best(2, 40, 0), 1);
    }

    private static void kind() {
        RowShutter x = Check.told("saw 4 2 1; blink 4 2 0; rows 2; delay 1; expose 1; pace 2;");
        // rows by kind of lamp 0: steady 8 4, blink 4 4, saw 6 0, pair 6 4
        CHECK.due("kind(0, 1, 0)", x.kind(0, 1, 0), 1);
        CHECK.due("kind(0, 1, 1)", x.kind(0, 1, 1), 0);
        x.alter(0, 1, 1);
        // 5 1, 4 1, 4 0, 4 1
        CHECK.due("kind(0, 40, 0)", x.kind(0, 40, 0), 1);
        CHECK.due("kind(0, 40, 1)", x.kind(0, 40, 1), 3);
        CHECK.due("kind(0, 0, 0)", x.kind(0, 0, 0), 0);
        CHECK.due("kind(0, 0, 1)", x.kind(0, 0, 1), 0);
        x.alter(0, 3, 0);
        // 5 1, 5 0, 4 0, 5 0
        CHECK.due("kind(0, 1, 0), of several the first", x.kind(0, 1, 0), 0);
        CHECK.due("kind(0, 1, 1)", x.kind(0, 1, 1), 4);
        x.alter(0, 1, 4);
        // 8 4, 8 0, 4 2, 8 2
        CHECK.due("kind(0, 1, 0) is saw", x.kind(0, 1, 0), 2);
        CHECK.due("kind(0, 1, 1)", x.kind(0, 1, 1), 2);
        x.alter(1, 0, 3);
        x.alter(0, 3, 1);
        // beside a pair one, 4 2: 8 6, 4 6, 6 2, 6 6
        CHECK.due("kind(0, 1, 0) is pair", x.kind(0, 1, 0), 3);
        CHECK.due("kind(2, 1, 0)", x.kind(2, 1, 0), RowShutter.BAD);
        CHECK.due("kind(-1, 1, 0)", x.kind(-1, 1, 0), RowShutter.BAD);
        CHECK.due("kind(0, -1, 0)", x.kind(0, -1, 0), RowShutter.BAD);
        CHECK.due("kind(0, 41, 0)", x.kind(0, 41, 0), RowShutter.BAD);
        CHECK.due("kind(0, 1, -1)", x.kind(0, 1, -1), RowShutter.BAD);
        CHECK.due("kind(0, 1, 2)", x.kind(0, 1, 2), RowShutter.BAD);
    }

    private static void phase() {
        RowShutter x = Check.told("blink 3 2 0; blink 4 2 0; rows 2; delay 1; expose 1; pace 2;");
        CHECK.due("phase(0, 1, 0)", x.phase(0, 1, 0), 1);
        CHECK.due("phase(0, 1, 1)", x.phase(0, 1, 1), 1);
        CHECK.due("phase(0, 40, 1)", x.phase(0, 40, 1), 1);
        CHECK.due("phase(0, 0, 0)", x.phase(0, 0, 0), 0);
        CHECK.due("phase(0, 0, 1)", x.phase(0, 0, 1), 0);
        RowShutter saw = Check.told("saw 9 12 0; rows 2; delay 9; expose 1; pace 12;");
        // stands 0 to 2 go up by 9, which gives 6 or 7 more; from 3 on they go down by 3: 2 and 0, at the first
        CHECK.due("phase(0, 1, 0)", saw.phase(0, 1, 0), 3);
        CHECK.due("phase(0, 1, 1)", saw.phase(0, 1, 1), 2);
        CHECK.due("phase(2, 1, 0)", x.phase(2, 1, 0), RowShutter.BAD);
        CHECK.due("phase(-1, 1, 0)", x.phase(-1, 1, 0), RowShutter.BAD);
        CHECK.due("phase(0, -1, 0)", x.phase(0, -1, 0), RowShutter.BAD);
        CHECK.due("phase(0, 41, 0)", x.phase(0, 41, 0), RowShutter.BAD);
        CHECK.due("phase(0, 1, -1)", x.phase(0, 1, -1), RowShutter.BAD);
        CHECK.due("phase(0, 1, 2)", x.phase(0, 1, 2), RowShutter.BAD);
        RowShutter last = Check.told("saw 9 12 0; blink 9 12 11; rows 2; delay 1; expose 1; pace 12;");
        // the blink one rises by 9 from row to row; the saw falls, by 8, from stand 11 alone
        CHECK.due("phase(0, 1, 0)", last.phase(0, 1, 0), 11);
        CHECK.due("phase(0, 1, 1)", last.phase(0, 1, 1), 1);
    }

    private static void out() {
        RowShutter x = Check.told("blink 4 2 0; blink 6 2 0; steady 9 1 0; rows 2; delay 1; expose 1; pace 2;");
        CHECK.due("out(1, 0)", x.out(1, 0), 1);
        CHECK.due("out(1, 1)", x.out(1, 1), 4);
        CHECK.due("out(40, 0)", x.out(40, 0), 1);
        x.alter(1, 1, 4);
        CHECK.due("out(1, 0), of several the first", x.out(1, 0), 0);
        x.alter(1, 3, 1);
        CHECK.due("out(1, 0) where it is even", x.out(1, 0), RowShutter.NONE);
        CHECK.due("out(1, 1) where it is even", x.out(1, 1), RowShutter.NONE);
        CHECK.due("out(0, 0)", x.out(0, 0), RowShutter.NONE);
        CHECK.due("out(-1, 0)", x.out(-1, 0), RowShutter.BAD);
        CHECK.due("out(41, 0)", x.out(41, 0), RowShutter.BAD);
        CHECK.due("out(1, -1)", x.out(1, -1), RowShutter.BAD);
        CHECK.due("out(1, 2)", x.out(1, 2), RowShutter.BAD);
        CHECK.due("out(1, 0) without a lamp", new RowShutter().out(1, 0), RowShutter.NONE);
        CHECK.due("out(1, 0) of a steady one", Check.told("steady 5 1 0;").out(1, 0), RowShutter.NONE);
        RowShutter steady = Check.told("steady 9 1 0; blink 4 2 0; rows 2; delay 1; expose 1;");
        CHECK.due("out(1, 0) is the last", steady.out(1, 0), 1);
        CHECK.due("out(1, 1) is nothing", steady.out(1, 1), 0);
    }

    private static void nothingIsChanged() {
        RowShutter x = Check.told("saw 6 6 4; blink 5 5 3; rows 2; delay 1; expose 3; pace 7;");
        x.best(1, 3, 0);
        x.best(2, 3, 0);
        x.best(3, 3, 0);
        x.kind(0, 3, 0);
        x.phase(1, 3, 0);
        x.out(3, 0);
        int[] rules = {2, 0, 0, 2, 1, 3, 7, 4};
        for (int what = 0; what < rules.length; what++) {
            CHECK.due("rule(" + what + ")", x.rule(what), rules[what]);
        }
        CHECK.due("lamp(0, 0)", x.lamp(0, 0), 2);
        CHECK.due("lamp(1, 3)", x.lamp(1, 3), 3);
    }
}
