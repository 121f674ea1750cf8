/** Counts the calls whose answer is not the one that is due, and prints them. */
final class Check {
    private final String name;
    private int asked;
    private int wrong;

    Check(String name) {
        this.name = name;
    }

    void due(String call, long got, long want) {
        asked++;
        if (got != want) {
            wrong++;
            System.out.println(name + ": " + call + " answered " + got + ", due is " + want);
        }
    }

    void holds(String what, boolean held) {
        asked++;
        if (!held) {
            wrong++;
            System.out.println(name + ": " + what);
        }
    }

    void finish() {
        System.out.println(name + ": " + asked + " checks, " + wrong + " wrong");
        if (wrong != 0 || asked == 0) {
            System.exit(1);
        }
    }

    static void feed(RowShutter x, String text) {
        for (int i = 0; i < text.length(); i++) {
            x.feed(text.charAt(i));
        }
    }

    static int text(RowShutter x, String text) {
        feed(x, text);
        return x.text();
    }

    /** A new object that has been told a text; a text that is not taken is a fault of the test. */
    static RowShutter told(String text) {
        RowShutter x = new RowShutter();
        if (text(x, text) < 0) {
            throw new IllegalArgumentException(text);
        }
        return x;
    }

    /** Goes to a TICK that is not past; what far ways need are SHOTS, for rest() goes but 60 TICKS. */
    static void toTick(RowShutter x, int tick) {
        int pace = x.rule(6);
        x.tell(3, 60);
        while (tick - x.rule(2) >= 2400) {
            x.shoot(40);
        }
        x.tell(3, pace);
        while (x.rule(2) < tick) {
            x.rest(Math.min(60, tick - x.rule(2)));
        }
    }
}
