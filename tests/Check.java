/** Counts the calls whose answer is not the one that is due, and prints them. */
final class Check {
    private final String name;
    private int asked;
    private int wrong;

    Check(String name) {
        this.name = name;
    }

    void due(String call, long got, long want) {
        asked++;
        if (got != want) {
            wrong++;
            System.out.println(name + ": " + call + " answered " + got + ", due is " + want);
        }
    }

    void holds(String what, boolean held) {
        asked++;
        if (!held) {
            wrong++;
            System.out.println(name + ": " + what);
        }
    }

    void finish() {
        System.out.println(name + ": " + asked + " checks, " + wrong + " wrong");
        if (wrong != 0 || asked == 0) {
            System.exit(1);
        }
    }

    static void feed(RowShutter x, String text) {
        for (int i = 0; i < text.length(); i++) {
            x.feed(text.charAt(i));
        }
    }

    static int text(RowShutter x, String text) {
        feed(x, text);
        return x.text();
    }

    /** A new object that has been told a text; a text that is not taken is a fault of the test. */
    static RowShutter told(String text) {
        RowShutter x = new RowShutter();
        if (text(x, text) < 0) {
            throw new IllegalArgumentException(text);
        }
        return x;
    }
}
