/** Promises 9 to 13: what is changed. */
public final class ChangeTest {
    private static final Check CHECK = new Check("ChangeTest");

    public static void main(String[] args) {
        alter();
        tell();
        put();
        cut();
        rest();
        CHECK.finish();
    }

    private static void alter() {
        int[] least = {0, 1, 1, 0};
        int[] most = {3, 9, 12, 11};
        RowShutter x = Check.told("steady 2 2 2; blink 4 5 6;");
        int[] first = {1, 4, 5, 6};
        for (int what = 0; what < 4; what++) {
            CHECK.due("alter to the most", x.alter(1, what, most[what]), first[what]);
            CHECK.due("alter above the most", x.alter(1, what, most[what] + 1), RowShutter.BAD);
            CHECK.due("alter below the least", x.alter(1, what, least[what] - 1), RowShutter.BAD);
            CHECK.due("lamp(1, what)", x.lamp(1, what), most[what]);
            CHECK.due("alter to the least", x.alter(1, what, least[what]), most[what]);
            CHECK.due("alter to the most", x.alter(1, what, most[what]), least[what]);
        }
        CHECK.due("alter(0, 4, 1)", x.alter(0, 4, 1), RowShutter.BAD);
        CHECK.due("alter(0, -1, 1)", x.alter(0, -1, 1), RowShutter.BAD);
        CHECK.due("alter(2, 0, 1)", x.alter(2, 0, 1), RowShutter.BAD);
        CHECK.due("alter(-1, 0, 1)", x.alter(-1, 0, 1), RowShutter.BAD);
        CHECK.due("lamp(0, 1)", x.lamp(0, 1), 2);
        // a pair lamp of light 9, period 12, phase 11 gives half at stand 11, all at stand 0
        CHECK.due("what it gives then", x.lamp(1, 4), 4);
        x.alter(1, 3, 1);
        CHECK.due("what it gives by another phase", x.lamp(1, 4), 9);
        x.alter(1, 0, 2);
        CHECK.due("what it gives by another kind", x.lamp(1, 4), 0);
        x.alter(1, 2, 2);
        CHECK.due("what it gives by another period", x.lamp(1, 4), 4);
        x.alter(1, 1, 5);
        CHECK.due("what it gives by another light", x.lamp(1, 4), 2);
    }

    private static void tell() {
        int[] first = {4, 2, 4, 20};
        int[] least = {1, 0, 1, 1};
        int[] most = {8, 9, 20, 60};
        RowShutter x = new RowShutter();
        for (int what = 0; what < 4; what++) {
            CHECK.due("tell the most", x.tell(what, most[what]), first[what]);
            CHECK.due("tell above the most", x.tell(what, most[what] + 1), RowShutter.BAD);
            CHECK.due("tell below the least", x.tell(what, least[what] - 1), RowShutter.BAD);
            CHECK.due("rule", x.rule(3 + what), most[what]);
            CHECK.due("tell the least", x.tell(what, least[what]), most[what]);
            CHECK.due("rule", x.rule(3 + what), least[what]);
        }
        CHECK.due("tell(-1, 1)", x.tell(-1, 1), RowShutter.BAD);
        CHECK.due("tell(4, 1)", x.tell(4, 1), RowShutter.BAD);
    }

    private static void put() {
        RowShutter x = Check.told("saw 1 1 7;");
        CHECK.due("put(-1, 1, 1)", x.put(-1, 1, 1), RowShutter.BAD);
        CHECK.due("put(4, 1, 1)", x.put(4, 1, 1), RowShutter.BAD);
        CHECK.due("put(0, 0, 1)", x.put(0, 0, 1), RowShutter.BAD);
        CHECK.due("put(0, 10, 1)", x.put(0, 10, 1), RowShutter.BAD);
        CHECK.due("put(0, 1, 0)", x.put(0, 1, 0), RowShutter.BAD);
        CHECK.due("put(0, 1, 13)", x.put(0, 1, 13), RowShutter.BAD);
        CHECK.due("put(3, 9, 12)", x.put(3, 9, 12), 2);
        int[] parts = {3, 9, 12, 0};
        for (int what = 0; what < 4; what++) {
            CHECK.due("lamp(1, " + what + ")", x.lamp(1, what), parts[what]);
        }
        CHECK.due("lamp(0, 3)", x.lamp(0, 3), 7);
        x.alter(1, 3, 5);
        x.cut(1);
        CHECK.due("put behind cut", x.put(1, 1, 1), 2);
        CHECK.due("its phase", x.lamp(1, 3), 0);
        CHECK.due("put(0, 1, 1)", x.put(0, 1, 1), 3);
        CHECK.due("put(1, 1, 1)", x.put(1, 1, 1), 4);
        CHECK.due("a fifth", x.put(1, 1, 1), RowShutter.FULL);
        CHECK.due("a fifth of no kind", x.put(4, 1, 1), RowShutter.BAD);
        CHECK.due("rule(0)", x.rule(0), 4);
    }

    private static void cut() {
        RowShutter x = Check.told("steady 1 1 0; steady 2 1 0; steady 3 1 0;");
        CHECK.due("cut(-1)", x.cut(-1), RowShutter.BAD);
        CHECK.due("cut(4) of 3", x.cut(4), RowShutter.BAD);
        CHECK.due("cut(3) of 3", x.cut(3), 3);
        CHECK.due("cut(2) of 3", x.cut(2), 3);
        CHECK.due("rule(7)", x.rule(7), 3);
        CHECK.due("rule(0)", x.rule(0), 2);
        CHECK.due("cut(0)", x.cut(0), 2);
        CHECK.due("cut(0) of none", x.cut(0), 0);
        CHECK.due("rule(7)", x.rule(7), 0);
    }

    private static void rest() {
        RowShutter x = Check.told("steady 1 1 0; pace 60;");
        CHECK.due("rest(-1)", x.rest(-1), RowShutter.BAD);
        CHECK.due("rest(61)", x.rest(61), RowShutter.BAD);
        CHECK.due("rest(0)", x.rest(0), 0);
        CHECK.due("rest(60)", x.rest(60), 60);
        CHECK.due("SHOTS", x.rule(1), 0);
        for (int i = 0; i < 41; i++) {
            x.shoot(40);
        }
        CHECK.due("rule(2)", x.rule(2), 98460);
        for (int i = 0; i < 25; i++) {
            x.rest(60);
        }
        CHECK.due("rest(40)", x.rest(40), RowShutter.FULL);
        CHECK.due("rule(2)", x.rule(2), 99960);
        CHECK.due("rest(39)", x.rest(39), 99999);
        CHECK.due("rest(1)", x.rest(1), RowShutter.FULL);
        CHECK.due("rest(0)", x.rest(0), 99999);
        CHECK.due("rest(61)", x.rest(61), RowShutter.BAD);
        CHECK.due("shoot(1)", x.shoot(1), RowShutter.FULL);
        CHECK.due("shoot(41)", x.shoot(41), RowShutter.BAD);
        CHECK.due("shoot(0)", x.shoot(0), 0);
    }
}
