import java.lang.management.ManagementFactory;

/** The room that a run of 512 calls takes: an object is made once, and after that a call makes none of any weight. */
public final class RoomTest {
    private static final int MOST_CALLS = 512;
    private static final long MOST_BYTES_OF_AN_OBJECT = 50_000;
    // Not nothing, as the machine itself may need some; one copy of the state a call would take ten times as much.
    private static final long MOST_BYTES_OF_CALLS = 200_000;
    private static final String TEXT = "channel 0 base 9 slope 7 period 99;regular 0 1 2 3 4 5 6 7;injected 0 1 2 3;auto;"
            + "continuous;window 0 low 1 high 2 delay 3 on 0 1;trigger 0 regular every 99;trigger 1 injected every 177;"
            + "queue 16 newest;pace 1;";

    public static void main(String[] args) {
        ConverterScanner warm = Bench.made(TEXT);
        Bench.due("the first use of all classes", warm.run(100) > 0 ? 1 : 0, 1);
        takes("a new object", () -> new ConverterScanner().state(0), MOST_BYTES_OF_AN_OBJECT);
        ConverterScanner x = Bench.made(TEXT);
        calls("run", () -> x.run(500));
        calls("fire", () -> x.fire(1));
        calls("nextResult", () -> x.nextResult(5000));
        calls("whenRaised", () -> x.whenRaised(0, 500));
        calls("overrunsWith", () -> x.overrunsWith(60, 500));
        calls("slowestPace", () -> x.slowestPace(20));
        calls("save", () -> x.save(0));
        calls("restore", () -> x.restore(0));
        calls("state", () -> x.state(3) + x.sequence(true, 7) + x.window(0, 8) + x.trigger(3, 4));
        calls("setSignal", () -> x.setSignal(1, 2, 3, 4));
        calls("setup", () -> x.append(0x70616365, 0x20353b20, 0x20202020, 0x20202020, 0x20202020) + x.setup());
        Bench.end("RoomTest");
    }

    private static void calls(String name, Bench.Call call) {
        takes(MOST_CALLS + " calls of " + name, () -> {
            double sum = 0;
            for (int i = 0; i < MOST_CALLS; i++) {
                sum += call.answer();
            }
            return sum;
        }, MOST_BYTES_OF_CALLS);
    }

    private static void takes(String name, Bench.Call call, long most) {
        long before = bytesSoFar();
        call.answer();
        long taken = bytesSoFar() - before;
        Bench.due(name + " take " + taken + " bytes, at most " + most, taken <= most ? 1 : 0, 1);
    }

    private static long bytesSoFar() {
        com.sun.management.ThreadMXBean threads = (com.sun.management.ThreadMXBean) ManagementFactory.getThreadMXBean();
        return threads.getCurrentThreadAllocatedBytes();
    }
}
