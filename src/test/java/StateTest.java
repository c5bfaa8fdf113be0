/** Promises 16 to 29: what is told of the converter and of its results. */
public final class StateTest {
    private static final int NONE = ConverterScanner.NONE;

    public static void main(String[] args) {
        promise16State();
        promise17Sequence();
        promise18Entry();
        promise19Channel();
        promise20And21SumAndMean();
        promise22Trigger();
        promise23Window();
        promise24Signal();
        promise25Queued();
        promise26And27Stored();
        promise28Injected();
        promise29Latency();
        Bench.end("StateTest");
    }

    /** Regular results in cycles 14, 29 and 44, injected ones in 24 + 15 and 39 + 15. */
    private static ConverterScanner busy() {
        return Bench.made("regular 0 1 2;injected 3 4;channel 0 base 10;channel 1 base 20;channel 3 base 30 trim 1;"
                + "trigger 0 regular every 100 from 5;trigger 1 injected every 100 from 25;queue 1;pace 50;"
                + "window 0 low 0 high 5 delay 1 on 0 1 3;");
    }

    private static void promise16State() {
        ConverterScanner x = busy();
        Bench.dueThrow("state(-1)", x, Bench.ILLEGAL, () -> x.state(-1));
        Bench.dueThrow("state(11)", x, Bench.ILLEGAL, () -> x.state(11));
        x.run(25);
        // The first regular result was in cycle 19; the second conversion has passed 5 of its 15 cycles.
        int[] before = {25, 1, 1, 10, 1, 0, 0, 0, 50, 1, 1};
        check("state before the break", x, before);
        x.run(1);
        int[] after = {26, 2, 3, 14, 1, 1, 0, 0, 50, 1, 1};
        check("state after the break", x, after);
        x.run(44);
        // Injected results in cycles 39 and 54, a transfer in cycle 49, the second regular result in cycle 69.
        int[] later = {70, 0, NONE, NONE, 4, 1, 0, 1, 50, 1, 1};
        check("state later", x, later);
        x.run(15);
        int[] overrun = {85, 0, NONE, NONE, 5, 1, 1, 1, 50, 1, 1};
        check("state after an overrun", x, overrun);
    }

    private static void check(String what, ConverterScanner x, int[] state) {
        for (int i = 0; i < state.length; i++) {
            Bench.due(what + " " + i, x.state(i), state[i]);
        }
    }

    private static void promise17Sequence() {
        ConverterScanner x = busy();
        for (boolean isInjected : new boolean[] {false, true}) {
            Bench.dueThrow("sequence(-1)", x, Bench.ILLEGAL, () -> x.sequence(isInjected, -1));
            Bench.dueThrow("sequence(8)", x, Bench.ILLEGAL, () -> x.sequence(isInjected, 8));
        }
        x.run(45);
        int[] regular = {3, 1, 1, 0, 5, 1, 0, 0};
        int[] injected = {2, 1, 1, 1, 25, 1, 0, 0};
        for (int what = 0; what < 8; what++) {
            Bench.due("regular sequence " + what, x.sequence(false, what), regular[what]);
            Bench.due("injected sequence " + what, x.sequence(true, what), injected[what]);
        }
        x.run(45);
        int[] regularLater = {3, 0, 0, NONE, NONE, 3, 1, 0};
        int[] injectedLater = {2, 0, 0, NONE, NONE, 2, 1, 0};
        for (int what = 0; what < 8; what++) {
            Bench.due("regular sequence later " + what, x.sequence(false, what), regularLater[what]);
            Bench.due("injected sequence later " + what, x.sequence(true, what), injectedLater[what]);
        }
        ConverterScanner over = Bench.made("injected 0;over 4 shift 0;trigger 0 injected every 999;");
        over.run(15 * 7);
        Bench.due("injected conversions that count", over.sequence(true, 7), 7);
    }

    private static void promise18Entry() {
        ConverterScanner x = busy();
        Bench.due("entry(false, 2)", x.entry(false, 2), 2);
        Bench.due("entry(true, 1)", x.entry(true, 1), 4);
        Bench.due("entry(false, 0)", x.entry(false, 0), 0);
        Bench.due("entry(true, 0)", x.entry(true, 0), 3);
        Bench.dueThrow("entry(false, 3)", x, Bench.BOUNDS, () -> x.entry(false, 3));
        Bench.dueThrow("entry(true, 2)", x, Bench.BOUNDS, () -> x.entry(true, 2));
        Bench.dueThrow("entry(false, -1)", x, Bench.BOUNDS, () -> x.entry(false, -1));
        Bench.dueThrow("entry(true, -1)", x, Bench.BOUNDS, () -> x.entry(true, -1));
        ConverterScanner bare = new ConverterScanner();
        Bench.dueThrow("entry without entries", bare, Bench.BOUNDS, () -> bare.entry(false, 0));
    }

    private static void promise19Channel() {
        ConverterScanner x = Bench.made("channel 5 sample 1 trim -4 base 9 slope 2 period 7;regular 5;"
                + "trigger 0 regular every 20;queue 1;");
        Bench.dueThrow("channel(8, 0)", x, Bench.BOUNDS, () -> x.channel(8, 9));
        Bench.dueThrow("channel(-1, 0)", x, Bench.BOUNDS, () -> x.channel(-1, 0));
        Bench.dueThrow("channel(0, 8)", x, Bench.ILLEGAL, () -> x.channel(0, 8));
        Bench.dueThrow("channel(0, -1)", x, Bench.ILLEGAL, () -> x.channel(0, -1));
        x.run(60);
        // Measured in the cycles 0, 20 and 40, which are 0, 6 and 5 in the period: 13, 25 and 23.
        int[] due = {1, -4, 9, 2, 7, 3, 13, 25};
        for (int what = 0; what < 8; what++) {
            Bench.due("channel " + what, x.channel(5, what), due[what]);
        }
        ConverterScanner zero = Bench.made("regular 5;trigger 0 regular every 20;");
        zero.run(20);
        Bench.due("a least result of 0", zero.channel(5, 6), 0);
        Bench.due("a greatest result of 0", zero.channel(5, 7), 0);
        // One result, then a lower one, one between them, and a greater one.
        int[][] bases = {{20, 20, 20}, {10, 10, 20}, {15, 10, 20}, {30, 10, 30}};
        ConverterScanner four = Bench.made("regular 5;trigger 0 regular every 20;");
        for (int[] base : bases) {
            four.setSignal(5, base[0], 0, 1);
            four.run(20);
            Bench.due("the least result with " + base[0], four.channel(5, 6), base[1]);
            Bench.due("the greatest result with " + base[0], four.channel(5, 7), base[2]);
        }
    }

    private static void promise20And21SumAndMean() {
        ConverterScanner x = Bench.made("channel 5 sample 1 base 4 slope 1 period 3;regular 5;injected 5;"
                + "trigger 0 regular every 20;trigger 1 injected every 60 from 13;");
        Bench.dueThrow("sum(8)", x, Bench.BOUNDS, () -> x.sum(8));
        Bench.dueThrow("sum(-1)", x, Bench.BOUNDS, () -> x.sum(-1));
        Bench.dueThrow("mean(8)", x, Bench.BOUNDS, () -> x.mean(8));
        Bench.dueThrow("mean(-1)", x, Bench.BOUNDS, () -> x.mean(-1));
        Bench.dueThrow("mean(5)", x, Bench.ABSENT, () -> x.mean(5));
        Bench.due("sum without results", x.sum(5), 0);
        x.run(60);
        // Measured in the cycles 0, 13, 26 (broken off none; the one due in 20 waits) and 40: 4, 5, 6 and 5.
        Bench.due("sum", x.sum(5), 20);
        Bench.due("mean", x.mean(5), 5.0);
        x.run(20);
        Bench.due("mean", x.mean(5), 24 / 5.0);
        ConverterScanner great = Bench.made("channel 0 base 4095 sample 1 trim -99;regular 0;continuous;over 4 shift 0;"
                + "trigger 0 regular every 9999;");
        long results = 0;
        for (int i = 0; i < 500; i++) {
            results += great.run(5000);
        }
        Bench.due("results of 2500000 cycles", results, 2500000 / (13 * 16));
        Bench.due("a sum of them", great.sum(0), results * (16 * 4095 + 99));
        great.setSample(0, 1);
        Bench.due("a mean of them", great.mean(0), 16 * 4095 + 99);
    }

    private static void promise22Trigger() {
        ConverterScanner x = busy();
        Bench.dueThrow("trigger(4, 0)", x, Bench.BOUNDS, () -> x.trigger(4, 9));
        Bench.dueThrow("trigger(-1, 0)", x, Bench.BOUNDS, () -> x.trigger(-1, 0));
        Bench.dueThrow("trigger(0, 5)", x, Bench.ILLEGAL, () -> x.trigger(0, 5));
        Bench.dueThrow("trigger(0, -1)", x, Bench.ILLEGAL, () -> x.trigger(0, -1));
        x.run(10);
        x.fire(0);
        x.fire(3);
        int[][] due = {{1, 100, 5, 2, 1}, {2, 100, 25, 0, 0}, {0, 0, 0, 0, 0}, {0, 0, 0, 1, 1}};
        for (int i = 0; i < 4; i++) {
            for (int what = 0; what < 5; what++) {
                Bench.due("trigger " + i + " " + what, x.trigger(i, what), due[i][what]);
            }
        }
    }

    private static void promise23Window() {
        ConverterScanner x = busy();
        Bench.dueThrow("window(3, 0)", x, Bench.BOUNDS, () -> x.window(3, 0));
        Bench.dueThrow("window(-1, 0)", x, Bench.BOUNDS, () -> x.window(-1, 0));
        Bench.dueThrow("window that was not told", x, Bench.BOUNDS, () -> x.window(1, 9));
        Bench.dueThrow("window(0, 9)", x, Bench.ILLEGAL, () -> x.window(0, 9));
        Bench.dueThrow("window(0, -1)", x, Bench.ILLEGAL, () -> x.window(0, -1));
        x.run(41);
        int[] due = {0, 5, 1, 0b1011, 2, 1, 19, 0, 0};
        for (int what = 0; what < 9; what++) {
            Bench.due("window " + what, x.window(0, what), due[what]);
        }
    }

    private static void promise24Signal() {
        ConverterScanner x = Bench.made("channel 1 base 4000 slope 99 period 10;channel 2 base 150 slope -99 period 3;"
                + "channel 3 base 1 slope 1 period 9999;");
        Bench.dueThrow("signal(8, 0)", x, Bench.BOUNDS, () -> x.signal(8, -1));
        Bench.dueThrow("signal(-1, 0)", x, Bench.BOUNDS, () -> x.signal(-1, 0));
        Bench.dueThrow("signal(0, -1)", x, Bench.ILLEGAL, () -> x.signal(0, -1));
        Bench.dueThrow("signal(0, least int)", x, Bench.ILLEGAL, () -> x.signal(0, Integer.MIN_VALUE));
        Bench.due("signal", x.signal(1, 0), 4000);
        Bench.due("signal at most 4095", x.signal(1, 1), 4095);
        Bench.due("signal after a period", x.signal(1, 20), 4000);
        Bench.due("signal", x.signal(2, 4), 51);
        Bench.due("signal at least 0", x.signal(2, 2), 0);
        Bench.due("signal of the greatest cycle", x.signal(3, Integer.MAX_VALUE), 1 + Integer.MAX_VALUE % 9999 > 4095
                ? 4095 : 1 + Integer.MAX_VALUE % 9999);
        Bench.due("signal", x.signal(3, 9999 + 77), 78);
    }

    private static void promise25Queued() {
        ConverterScanner x = Bench.made("regular 0 1;channel 0 base 8;channel 1 base 9;trigger 2 regular;queue 2;");
        Bench.dueThrow("queued(0, 4)", x, Bench.ABSENT, () -> x.queued(0, 4));
        x.run(3);
        x.fire(2);
        x.run(30);
        int[][] due = {{0, 2, 17, 8}, {1, 2, 32, 9}};
        for (int i = 0; i < 2; i++) {
            for (int what = 0; what < 4; what++) {
                Bench.due("queued " + i + " " + what, x.queued(i, what), due[i][what]);
            }
        }
        Bench.dueThrow("queued(2, 0)", x, Bench.ABSENT, () -> x.queued(2, 0));
        Bench.dueThrow("queued(-1, 0)", x, Bench.ABSENT, () -> x.queued(-1, 0));
        Bench.dueThrow("queued(2, -1)", x, Bench.ABSENT, () -> x.queued(2, -1));
        Bench.dueThrow("queued(1, 4)", x, Bench.ILLEGAL, () -> x.queued(1, 4));
        Bench.dueThrow("queued(1, -1)", x, Bench.ILLEGAL, () -> x.queued(1, -1));
        x.take();
        Bench.due("the oldest after take", x.queued(0, 0), 1);
        Bench.dueThrow("queued(1, 0) after take", x, Bench.ABSENT, () -> x.queued(1, 0));
    }

    private static void promise26And27Stored() {
        ConverterScanner x = Bench.made("regular 0 1;channel 0 base 8;channel 1 base 9;trigger 2 regular;pace 1;");
        Bench.dueThrow("stored(0, 4)", x, Bench.ABSENT, () -> x.stored(0, 4));
        Bench.due("memorySize", x.memorySize(), 0);
        x.fire(2);
        x.run(30);
        Bench.due("memorySize", x.memorySize(), 2);
        int[][] due = {{0, 2, 14, 8}, {1, 2, 29, 9}};
        for (int i = 0; i < 2; i++) {
            for (int what = 0; what < 4; what++) {
                Bench.due("stored " + i + " " + what, x.stored(i, what), due[i][what]);
            }
        }
        Bench.dueThrow("stored(2, 0)", x, Bench.ABSENT, () -> x.stored(2, 0));
        Bench.dueThrow("stored(-1, 0)", x, Bench.ABSENT, () -> x.stored(-1, 0));
        Bench.dueThrow("stored(2, 4)", x, Bench.ABSENT, () -> x.stored(2, 4));
        Bench.dueThrow("stored(0, 4)", x, Bench.ILLEGAL, () -> x.stored(0, 4));
        Bench.dueThrow("stored(0, -1)", x, Bench.ILLEGAL, () -> x.stored(0, -1));
        for (int i = 0; i < 31; i++) {
            x.fire(2);
            x.run(30);
        }
        Bench.due("memorySize of 64", x.memorySize(), 64);
        x.fire(2);
        x.run(15);
        Bench.due("memorySize of 65", x.memorySize(), 64);
        Bench.due("the oldest one is lost", x.stored(0, 2), 29);
    }

    private static void promise28Injected() {
        ConverterScanner x = Bench.made("injected 5 6 5;channel 5 slope 1 period 9999;trigger 1 injected;"
                + "trigger 3 injected;");
        Bench.dueThrow("injected(3, 0)", x, Bench.BOUNDS, () -> x.injected(3, 4));
        Bench.dueThrow("injected(-1, 0)", x, Bench.BOUNDS, () -> x.injected(-1, 0));
        Bench.dueThrow("injected(0, 4)", x, Bench.ILLEGAL, () -> x.injected(0, 4));
        Bench.dueThrow("injected(0, -1)", x, Bench.ILLEGAL, () -> x.injected(0, -1));
        Bench.dueThrow("injected(0, 0)", x, Bench.ABSENT, () -> x.injected(0, 0));
        x.fire(1);
        x.run(30);
        Bench.dueThrow("injected(2, 0)", x, Bench.ABSENT, () -> x.injected(2, 0));
        Bench.due("injected(1, 0)", x.injected(1, 0), 6);
        x.run(15);
        x.fire(3);
        x.run(15);
        int[][] due = {{5, 3, 59, 47}, {6, 1, 29, 0}, {5, 1, 44, 32}};
        for (int i = 0; i < 3; i++) {
            for (int what = 0; what < 4; what++) {
                Bench.due("injected " + i + " " + what, x.injected(i, what), due[i][what]);
            }
        }
        Bench.due("the queue", x.state(9), 0);
    }

    private static void promise29Latency() {
        ConverterScanner x = busy();
        Bench.dueThrow("latency(false)", x, Bench.ABSENT, () -> x.latency(false));
        Bench.dueThrow("latency(true)", x, Bench.ABSENT, () -> x.latency(true));
        x.run(90);
        // From cycle 5 to the cycles 19, 69 and 84, and from cycle 25 to the cycles 39 and 54.
        Bench.due("latency(false)", x.latency(false), (14 + 64 + 79) / 3.0);
        Bench.due("latency(true)", x.latency(true), (14 + 29) / 2.0);
        x.run(100);
        Bench.due("latency(false) of two passes", x.latency(false), (14 + 64 + 79) / 3.0);
        ConverterScanner long1 = Bench.made("regular 0;continuous;trigger 0 regular every 1;");
        long sum = 0;
        for (int i = 0; i < 300; i++) {
            long1.run(5000);
        }
        for (long i = 15; i <= 1500000; i += 15) {
            sum += i - 1;
        }
        Bench.due("latency of a long run", long1.latency(false), (double) sum / 100000);
    }
}
