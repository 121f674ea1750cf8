import java.lang.reflect.InvocationTargetException;
import java.lang.reflect.Method;
import java.util.ArrayList;
import java.util.Arrays;
import java.util.List;
import java.util.Random;

/** Long runs of chance calls, of all promises, whose answers PlainModel gives too. */
public final class RunsTest {
    private static final Check CHECK = new Check("RunsTest");
    private static final int OBJECTS = 700;
    private static final int MOST_CALLS = 512;

    /** A call and the bounds of its arguments, least and most of each. */
    private record Call(String name, int often, int... bounds) { }

    private static final List<Call> CALLS = List.of(
            new Call("feed", 1, 0, 127), new Call("end", 1, 0, 5), new Call("text", 1), new Call("fault", 1),
            new Call("rule", 4, 0, 7), new Call("lamp", 4, 0, 3, 0, 4), new Call("row", 4, 0, 7),
            new Call("alter", 10, 0, 3, 0, 3, 0, 12), new Call("tell", 8, 0, 3, 0, 20), new Call("put", 4, 0, 3, 1, 9, 1, 12),
            new Call("cut", 1, 0, 4), new Call("rest", 4, 0, 60), new Call("shoot", 4, 0, 40), new Call("runs", 6, 0, 40, 0, 3),
            new Call("ahead", 4, 0, 40, 0, 7), new Call("when", 4, 0, 60), new Call("again", 3), new Call("best", 3, 1, 3, 0, 10, 0, 1),
            new Call("kind", 3, 0, 3, 0, 10, 0, 1), new Call("phase", 3, 0, 3, 0, 10, 0, 1), new Call("out", 3, 0, 10, 0, 1),
            new Call("luck", 3, 0, 10, 0, 8, 0, 40, 0, 1), new Call("mean", 3, 0, 10, 0, 8, 0, 1),
            new Call("see", 2, 0, 20, 0, 7, 0, 255), new Call("forget", 3, 0, 6), new Call("kinds", 4, 0, 3),
            new Call("phases", 4, 0, 3), new Call("ask", 3, 0, 3, 0, 1), new Call("drift", 3, Integer.MIN_VALUE, Integer.MAX_VALUE, 1, 40, 0, 1),
            new Call("keep", 2, 0, 1), new Call("back", 2, 0, 1), new Call("sheet", 2, 0, 3, 0, 2, 0, 40),
            new Call("lay", 12, 0, 3, 0, 12, 0, 4), new Call("read", 6, 0, 3, 0, 2, 0, 10, 0, 5), new Call("torn", 4),
            new Call("count", 4, 0, 5));

    private final Random random;
    private final RowShutter real = new RowShutter();
    private final PlainModel model = new PlainModel();
    private final StringBuilder told = new StringBuilder();
    private int calls;
    private boolean parted;

    private RunsTest(long seed) {
        random = new Random(seed);
    }

    public static void main(String[] args) throws Exception {
        for (int i = 0; i < OBJECTS; i++) {
            new RunsTest(i).run(i);
        }
        CHECK.finish();
    }

    private void run(int i) throws Exception {
        List<Call> pool = new ArrayList<>();
        for (Call call : CALLS) {
            for (int k = 0; k < call.often; k++) {
                pool.add(call);
            }
        }
        // every fifth starts near the end of time, where rest() and shoot() are FULL
        for (int k = 0; i % 5 == 0 && k < 41; k++) {
            call("tell", 3, 60);
            call("shoot", 40);
        }
        while (calls < MOST_CALLS && !parted) {
            int turn = random.nextInt(40);
            if (turn == 0) {
                tellText();
            } else if (turn == 1) {
                seeWhatIs();
            } else {
                Call call = pool.get(random.nextInt(pool.size()));
                int[] arguments = new int[call.bounds.length / 2];
                for (int a = 0; a < arguments.length; a++) {
                    arguments[a] = argument(call.bounds[2 * a], call.bounds[2 * a + 1]);
                }
                call(call.name, arguments);
            }
        }
    }

    private int argument(int least, int most) {
        switch (random.nextInt(60)) {
            case 0: return least - 1;
            case 1: return most + 1;
            case 2: return random.nextBoolean() ? Integer.MAX_VALUE : Integer.MIN_VALUE;
            case 3: return random.nextInt();
            default: return (int) (least + (long) (random.nextDouble() * (1.0 + most - (double) least)));
        }
    }

    /** So that something of what is SEEN fits. */
    private void seeWhatIs() throws Exception {
        int n = random.nextInt(21);
        int r = random.nextInt(8);
        int bright = (int) call("ahead", n, r);
        if (bright >= 0) {
            call("see", n, r, bright);
            call("phases", random.nextInt(4));
            call("kinds", random.nextInt(4));
            call("ask", random.nextInt(4), 0);
            call("ask", random.nextInt(4), 1);
        }
    }

    private void tellText() throws Exception {
        String text = line();
        for (int more = random.nextInt(7); more > 0; more--) {
            text += line();
        }
        if (random.nextInt(3) == 0) {
            text = spoilt(text);
        }
        if (random.nextInt(3) > 0) {
            call("end", 0);
        }
        for (int i = 0; i < text.length(); i++) {
            call("feed", text.charAt(i));
        }
        call("text");
        call("fault");
    }

    private String line() {
        String[] names = {"steady", "blink", "saw", "pair", "rows", "delay", "expose", "pace"};
        int which = random.nextInt(8);
        String text = names[which] + blanks();
        int[] most = which < 4 ? new int[] {9, 12, 11} : new int[] {new int[] {8, 9, 20, 60}[which - 4]};
        for (int i = 0; i < most.length; i++) {
            int number = 1 + random.nextInt(most[i]);
            text += " " + (random.nextInt(40) == 0 ? random.nextInt(120) : number) + blanks();
        }
        return text + ";" + blanks();
    }

    private String blanks() {
        return random.nextInt(6) == 0 ? " " : "";
    }

    private String spoilt(String text) {
        int at = random.nextInt(text.length());
        String signs = "0123456789;;  abz#A/:{`";
        char sign = signs.charAt(random.nextInt(signs.length()));
        switch (random.nextInt(3)) {
            case 0: return text.substring(0, at) + text.substring(at + 1);
            case 1: return text.substring(0, at) + sign + text.substring(at);
            default: return text.substring(0, at);
        }
    }

    private long call(String name, int... arguments) throws Exception {
        if (calls >= MOST_CALLS || parted) {
            return -1;
        }
        calls++;
        long due = answer(model, name, arguments);
        long got = answer(real, name, arguments);
        String shown = name + Arrays.toString(arguments);
        told.append(shown).append(' ');
        CHECK.due(shown, got, due);
        if (got != due) {
            parted = true;
            System.out.println("behind " + told);
        }
        return got;
    }

    private static long answer(Object target, String name, int... arguments) throws Exception {
        Class<?>[] types = new Class<?>[arguments.length];
        Arrays.fill(types, int.class);
        Object[] values = new Object[arguments.length];
        for (int i = 0; i < values.length; i++) {
            values[i] = arguments[i];
        }
        Method method = target.getClass().getDeclaredMethod(name, types);
        try {
            return ((Number) method.invoke(target, values)).longValue();
        } catch (InvocationTargetException e) {
            System.out.println(name + Arrays.toString(arguments) + " threw " + e.getCause());
            return Long.MIN_VALUE;
        }
    }
}
