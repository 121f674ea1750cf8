import com.sun.management.ThreadMXBean;
import java.lang.management.ManagementFactory;

/** All calls live in one room: an object makes what it needs when it is made, its calls make nothing more. */
public final class RoomTest {
    private static final Check CHECK = new Check("RoomTest");
    private static final int CALLS = 512;
    private static final long MOST_BYTES_OF_AN_OBJECT = 8000;
    private static final long MOST_BYTES_OF_ALL_CALLS = 2000;

    public static void main(String[] args) {
        everyCall(new RowShutter(), 1);
        long ahead = made();
        RowShutter x = new RowShutter();
        long object = made() - ahead;
        CHECK.holds("a new object makes " + object + " bytes", object < MOST_BYTES_OF_AN_OBJECT);
        ahead = made();
        everyCall(x, CALLS);
        long calls = made() - ahead;
        CHECK.holds("the calls make " + calls + " bytes", calls < MOST_BYTES_OF_ALL_CALLS);
        CHECK.finish();
    }

    private static long made() {
        return ((ThreadMXBean) ManagementFactory.getThreadMXBean()).getCurrentThreadAllocatedBytes();
    }

    private static void everyCall(RowShutter x, int times) {
        for (int i = 0; i < times; i++) {
            feedAll(x, "saw 9 12 1;blink 9 11 2;pair 9 10 3;saw 9 9 4;rows 8;delay 9;expose 19;pace 59;");
            x.text();
            x.see(1, 1, 100);
            x.shoot(3);
            x.runs(40, i % 4);
            x.when(255);
            x.again();
            x.best(3, 4, 0);
            x.kind(1, 4, 0);
            x.phase(1, 4, 0);
            x.out(4, 0);
            x.luck(3, 8, 1, 0);
            x.mean(3, 8, 1);
            x.kinds(2);
            x.phases(2);
            x.ask(2, 0);
            x.drift(i, 4, 0);
            x.keep(i % 2);
            x.back(i % 2);
            x.sheet(i % 4, i % 3, i % 40);
            x.lay(i % 4, 0, 1);
            x.read(i % 4, i % 3, 0, 5);
        }
    }

    private static void feedAll(RowShutter x, String text) {
        for (int i = 0; i < text.length(); i++) {
            x.feed(text.charAt(i));
        }
    }
}
