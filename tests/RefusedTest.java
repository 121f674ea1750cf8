import java.lang.reflect.Method;
import java.util.Arrays;
import java.util.function.Supplier;

/**
 * 'What is refused changes nothing (but THE TAPE, as told)', and what is only asked changes nothing either: each such call
 * is made on an object of its own, whose account is then held against that of one on which it was not made.
 */
public final class RefusedTest {
    private static final Check CHECK = new Check("RefusedTest");
    private static final int MIN = Integer.MIN_VALUE, MAX = Integer.MAX_VALUE;
    private static final String FOUR_LAMPS = "saw 9 9 3;pair 5 7 2;blink 4 6 1;steady 3 5 11;";

    public static void main(String[] args) throws Exception {
        numbersOfTheText();
        numbersOfChanges();
        numbersOfShots();
        numbersOfWhatIsBest();
        numbersOfRows();
        numbersOfSheets();
        states();
        full();
        faultsOfSheets();
        faultsOfTexts();
        asked();
        CHECK.finish();
    }

    /** Four lamps, all six SEEN, both images, each sheet another, a FAULT of a text and of a read(), something on the tape. */
    private static RowShutter laden() {
        RowShutter x = new RowShutter();
        Check.text(x, "rows 9;");
        int[][] lamps = {{2, 9, 9, 3}, {3, 5, 7, 2}, {1, 4, 6, 1}, {0, 3, 5, 11}};
        for (int l = 0; l < 4; l++) {
            x.put(lamps[l][0], lamps[l][1], lamps[l][2]);
            x.alter(l, 3, lamps[l][3]);
        }
        int[] rules = {3, 1, 3, 7};
        for (int what = 0; what < 4; what++) {
            x.tell(what, rules[what]);
        }
        x.shoot(2);
        x.see(0, 0, x.ahead(0, 0));
        x.see(20, 2, x.ahead(20, 2));
        x.see(3, 1, x.ahead(3, 1));
        x.keep(0);
        x.rest(5);
        x.alter(1, 3, 8);
        x.tell(2, 2);
        x.forget(0);
        for (int i = 0; i < 6; i++) {
            x.see(2 * i, i % 3, x.ahead(2 * i, i % 3));
        }
        x.keep(1);
        int[] cells = {2, 5, 1, 7};
        x.sheet(0, 0, 4);
        x.sheet(1, 1, 3);
        x.sheet(2, 2, 0);
        for (int i = 0; i < 4; i++) {
            x.lay(0, i, cells[i]);
            x.lay(1, i, cells[i]);
        }
        x.read(0, 1, 0, 1);
        Check.feed(x, "saw 3 7 5;rows 2;");
        return x;
    }

    private static RowShutter atTheLastTick() {
        RowShutter x = Check.told(FOUR_LAMPS + "pace 60;");
        Check.toTick(x, 99999);
        return x;
    }

    private static RowShutter withAFullTape() {
        RowShutter x = Check.told(FOUR_LAMPS);
        Check.feed(x, "rows 5;" + " ".repeat(153));
        return x;
    }

    private static long answer(RowShutter x, String name, int... arguments) throws Exception {
        Class<?>[] types = new Class<?>[arguments.length];
        Arrays.fill(types, int.class);
        Object[] values = new Object[arguments.length];
        for (int i = 0; i < values.length; i++) {
            values[i] = arguments[i];
        }
        Method method = RowShutter.class.getMethod(name, types);
        return ((Number) method.invoke(x, values)).longValue();
    }

    private static void changesNothing(Supplier<RowShutter> made, RowShutter called, String call) {
        String got = Account.of(called);
        String due = Account.of(made.get());
        CHECK.holds(call + " changes\n  " + due + "\ninto\n  " + got, got.equals(due));
    }

    private static void refused(Supplier<RowShutter> made, long due, String name, int... arguments) throws Exception {
        RowShutter x = made.get();
        String call = name + Arrays.toString(arguments);
        CHECK.due(call, answer(x, name, arguments), due);
        changesNothing(made, x, call);
    }

    /** One argument at a time is too small and too large, by one and by far. */
    private static void bad(String name, int[] good, int[]... bounds) throws Exception {
        for (int a = 0; a < bounds.length; a++) {
            if (bounds[a].length == 0) {
                continue;
            }
            for (int v : new int[] {bounds[a][0] - 1, bounds[a][1] + 1, MIN, MAX}) {
                int[] arguments = good.clone();
                arguments[a] = v;
                refused(RefusedTest::laden, RowShutter.BAD, name, arguments);
            }
        }
    }

    private static int[] of(int... numbers) {
        return numbers;
    }

    private static void numbersOfTheText() throws Exception {
        bad("feed", of(98), of(0, 127));
        bad("end", of(0), of(0, 17));
        bad("rule", of(0), of(0, 7));
        bad("lamp", of(0, 0), of(0, 3), of(0, 4));
        bad("row", of(0), of(0, 7));
    }

    private static void numbersOfChanges() throws Exception {
        bad("alter", of(0, 0, 1), of(0, 3), of(0, 3), of(0, 3));
        bad("alter", of(0, 1, 1), of(0, 3), of(0, 3), of(1, 9));
        bad("alter", of(0, 2, 1), of(0, 3), of(0, 3), of(1, 12));
        bad("alter", of(0, 3, 1), of(0, 3), of(0, 3), of(0, 11));
        bad("tell", of(0, 1), of(0, 3), of(1, 8));
        bad("tell", of(1, 1), of(0, 3), of(0, 9));
        bad("tell", of(2, 1), of(0, 3), of(1, 20));
        bad("tell", of(3, 1), of(0, 3), of(1, 60));
        bad("put", of(0, 1, 1), of(0, 3), of(1, 9), of(1, 12));
        bad("cut", of(0), of(0, 4));
        bad("rest", of(1), of(0, 60));
    }

    private static void numbersOfShots() throws Exception {
        bad("shoot", of(1), of(0, 40));
        bad("runs", of(1, 0), of(0, 40), of(0, 3));
        bad("runs", of(0, 1), of(0, 40), of(0, 3));
        bad("ahead", of(0, 0), of(0, 40), of(0, 2));
        bad("when", of(0), of(0, 255));
    }

    private static void numbersOfWhatIsBest() throws Exception {
        bad("best", of(1, 1, 0), of(1, 3), of(0, 40), of(0, 1));
        bad("kind", of(0, 1, 0), of(0, 3), of(0, 40), of(0, 1));
        bad("phase", of(0, 1, 0), of(0, 3), of(0, 40), of(0, 1));
        bad("out", of(1, 0), of(0, 40), of(0, 1));
        bad("luck", of(1, 1, 1, 0), of(0, 10), of(0, 8), of(0, 255), of(0, 1));
        bad("mean", of(1, 1, 0), of(0, 10), of(0, 8), of(0, 1));
    }

    private static void numbersOfRows() throws Exception {
        bad("see", of(0, 0, 0), of(0, 20), of(0, 7), of(0, 255));
        bad("forget", of(0), of(0, 6));
        bad("kinds", of(0), of(0, 3));
        bad("phases", of(0), of(0, 3));
        bad("ask", of(0, 0), of(0, 3), of(0, 1));
        bad("drift", of(0, 1, 0), of(), of(1, 40), of(0, 1));
    }

    private static void numbersOfSheets() throws Exception {
        bad("keep", of(0), of(0, 1));
        bad("back", of(0), of(0, 1));
        bad("sheet", of(0, 0, 1), of(0, 3), of(0, 2));
        bad("lay", of(0, 0, 0), of(0, 3));
        bad("read", of(0, 0, 0, 1), of(0, 3), of(0, 2), of(), of(0, 20));
        bad("count", of(0), of(0, 5));
        refused(RefusedTest::laden, RowShutter.BAD, "sheet", 0, 0, 41);
        refused(RefusedTest::laden, RowShutter.BAD, "sheet", 0, 0, MAX);
    }

    private static void states() throws Exception {
        refused(RowShutter::new, RowShutter.STATE, "row", 0);
        refused(RowShutter::new, RowShutter.STATE, "drift", 1, 1, 0);
        refused(RowShutter::new, RowShutter.STATE, "back", 0);
        refused(RowShutter::new, RowShutter.STATE, "back", 1);
        refused(RefusedTest::withAFullTape, RowShutter.STATE, "row", 7);
        refused(RefusedTest::withAFullTape, RowShutter.STATE, "back", 0);
        refused(RefusedTest::laden, RowShutter.NONE, "row", 3);
        refused(RefusedTest::laden, RowShutter.NONE, "runs", 0, 1);
        refused(RefusedTest::laden, RowShutter.NONE, "when", 255);
        refused(RefusedTest::laden, RowShutter.NONE, "out", 0, 0);
        refused(RefusedTest::laden, RowShutter.NONE, "ask", 3, 0);
        refused(RowShutter::new, RowShutter.NONE, "count", 3);
    }

    private static void full() throws Exception {
        refused(RefusedTest::withAFullTape, RowShutter.FULL, "feed", (int) '#');
        refused(RefusedTest::laden, RowShutter.FULL, "put", 0, 1, 1);
        refused(RefusedTest::laden, RowShutter.FULL, "put", 3, 9, 12);
        refused(RefusedTest::laden, RowShutter.FULL, "see", 1, 1, 1);
        refused(RefusedTest::atTheLastTick, RowShutter.FULL, "rest", 1);
        refused(RefusedTest::atTheLastTick, RowShutter.FULL, "rest", 60);
        refused(RefusedTest::atTheLastTick, RowShutter.FULL, "shoot", 1);
        refused(RefusedTest::atTheLastTick, RowShutter.FULL, "shoot", 40);
    }

    private static void faultsOfSheets() throws Exception {
        for (int lane = 0; lane <= 2; lane++) {
            refused(RefusedTest::laden, -14, "sheet", 0, lane, -1);
            refused(RefusedTest::laden, -14, "sheet", 3, lane, MIN);
        }
        refused(RefusedTest::laden, -11, "lay", 3, 0, 1);
        refused(RefusedTest::laden, -11, "lay", 3, -1, 1);
        refused(RefusedTest::laden, -12, "lay", 0, 4, 1);
        refused(RefusedTest::laden, -12, "lay", 0, -1, 1);
        refused(RefusedTest::laden, -12, "lay", 1, 3, 1);
        refused(RefusedTest::laden, -12, "lay", 2, 0, 1);
        refused(RefusedTest::laden, -12, "lay", 0, MIN, 1);
        refused(RefusedTest::laden, -12, "lay", 0, MAX, 1);
        // from cell 1 on the pairs are lamp 5, phase 1 and then what is not whole
        refused(RefusedTest::laden, -20, "read", 0, 0, 1, 1);
        refused(RefusedTest::laden, -20, "read", 0, 0, 1, 20);
        refused(RefusedTest::refusedBehindOne, -21, "read", 0, 0, 0, 2);
        refused(RefusedTest::refusedBehindOne, -21, "read", 0, 0, 0, 20);
    }

    private static RowShutter refusedBehindOne() {
        RowShutter x = laden();
        x.lay(0, 3, 12);
        return x;
    }

    /** A text with a FAULT takes THE TAPE away and tells the FAULT, and changes nothing more. */
    private static void faultsOfTexts() {
        String[] texts = {"saw 1 1 1;rows 1;#", "saw 1 1 1;rows 1;foo", "saw 1 1 1;rows 1", "saw 1 1 1;rows 9;", "rows 1;rows 1;",
            FOUR_LAMPS + "saw 1 1 1;", "#"};
        int[] faults = {1, 2, 2, 3, 4, 5, 1};
        for (int i = 0; i < texts.length; i++) {
            RowShutter x = laden();
            x.end(0);
            Check.feed(x, texts[i]);
            CHECK.holds(texts[i], x.text() <= -10);
            CHECK.due("fault() of " + texts[i], x.fault(), faults[i]);
            CHECK.due("bytes behind " + texts[i], x.count(2), 0);
            RowShutter y = laden();
            y.end(0);
            String got = Account.of(x).replaceFirst("fault \\d", "");
            String due = Account.of(y).replaceFirst("fault \\d", "");
            CHECK.holds("the text " + texts[i] + " changes\n  " + due + "\ninto\n  " + got, got.equals(due));
        }
    }

    private static void only(String name, int... arguments) throws Exception {
        only(RefusedTest::laden, name, arguments);
    }

    private static void only(Supplier<RowShutter> made, String name, int... arguments) throws Exception {
        RowShutter x = made.get();
        String call = name + Arrays.toString(arguments);
        CHECK.holds(call + " is refused", answer(x, name, arguments) >= 0);
        changesNothing(made, x, call);
    }

    private static void asked() throws Exception {
        only("fault");
        only("torn");
        only("again");
        only("rule", 7);
        only("lamp", 0, 4);
        only("row", 2);
        only("runs", 40, 0);
        only("runs", 40, 1);
        only("runs", 40, 2);
        only("runs", 40, 3);
        only("ahead", 40, 2);
        only("when", 1);
        for (int which = 1; which <= 3; which++) {
            only("best", which, 40, 0);
            only("best", which, 3, 1);
        }
        for (int l = 0; l <= 3; l++) {
            only("kind", l, 3, 0);
            only("phase", l, 3, 0);
            only("kinds", l);
            only("phases", l);
        }
        only(RefusedTest::withAFullTape, "ask", 0, 0);
        only(RefusedTest::withAFullTape, "ask", 1, 1);
        only("out", 5, 0);
        only("luck", 5, 8, 3, 0);
        only("mean", 5, 8, 1);
        only("drift", 7, 40, 0);
        only("drift", -7, 40, 1);
        only("count", 4);
        only("rest", 0);
        only("shoot", 0);
        only("end", 17);
        only("cut", 4);
        only("forget", 6);
        only("keep", 1);
    }
}
