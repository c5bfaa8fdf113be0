/** Promises 7 to 15: running and setting, and what sections 1 to 6 of the document say of it. */
public final class RunTest {
    private static final int NONE = ConverterScanner.NONE;

    public static void main(String[] args) {
        promise7Run();
        promise7ConversionAndResult();
        promise7Oversampling();
        promise7Groups();
        promise7Timers();
        promise7BreakOff();
        promise7BreakOffBetweenConversions();
        promise7AutoAndContinuous();
        promise7Windows();
        promise7Queue();
        promise7Transfer();
        promise8Fire();
        promise9Stop();
        promise10Take();
        promise11Acknowledge();
        promise12SetSignal();
        promise13SetSample();
        promise14SetWindow();
        promise15SetPace();
        Bench.end("RunTest");
    }

    private static void promise7Run() {
        ConverterScanner x = Bench.made("regular 0 0;trigger 0 regular;");
        Bench.dueThrow("run(0)", x, Bench.ILLEGAL, () -> x.run(0));
        Bench.dueThrow("run(5001)", x, Bench.ILLEGAL, () -> x.run(5001));
        Bench.dueThrow("run(-1)", x, Bench.ILLEGAL, () -> x.run(-1));
        Bench.due("run(5000)", x.run(5000), 0);
        Bench.due("present cycle", x.state(0), 5000);
        x.fire(0);
        Bench.due("run(1)", x.run(1), 0);
        Bench.due("run(13)", x.run(13), 0);
        Bench.due("run(1) to the first result", x.run(1), 1);
        Bench.due("run(100)", x.run(100), 1);
        Bench.due("present cycle", x.state(0), 5115);
    }

    private static void promise7ConversionAndResult() {
        // The sample time ends in cycle 7 + 3 - 1, where the signal is 5 + 2 * (9 mod 4).
        ConverterScanner x = Bench.made("channel 6 base 5 slope 2 period 4 trim 3;regular 6;trigger 2 regular;");
        x.run(7);
        x.fire(2);
        x.run(15);
        Bench.due("the value", x.queued(0, 3), 4);
        Bench.due("the cycle", x.queued(0, 2), 21);
        Bench.due("the trigger", x.queued(0, 1), 2);
        Bench.due("the channel", x.queued(0, 0), 6);
        ConverterScanner low = Bench.made("channel 6 base 5 trim 6;regular 6;trigger 2 regular;");
        low.fire(2);
        low.run(15);
        Bench.due("a value below 0", low.queued(0, 3), 0);
        ConverterScanner high = Bench.made("channel 6 base 4090 slope 99 period 9 trim -99 sample 1;regular 6;"
                + "trigger 2 regular every 13;over 4 shift 0;");
        high.run(16 * 13);
        // The signal is 4090 when the cycle is divisible by 9, and 4095 otherwise: twice in 16 conversions.
        Bench.due("a value above 4095", high.queued(0, 3), 14 * 4095 + 2 * 4090 + 99);
    }

    private static void promise7Oversampling() {
        ConverterScanner x = Bench.made("channel 0 base 1 slope 1 period 99 sample 1;regular 0;injected 0;"
                + "over 2 shift 1;trigger 0 regular;trigger 1 injected;");
        x.fire(0);
        x.run(51);
        Bench.due("conversions that count", x.sequence(false, 7), 3);
        Bench.due("results before the last conversion", x.sequence(false, 5), 0);
        Bench.due("run to the result", x.run(1), 1);
        Bench.due("conversions that count", x.sequence(false, 7), 0);
        // 1 + 14 + 27 + 40 = 82
        Bench.due("the value", x.queued(0, 3), 41);
        x.fire(1);
        x.run(52);
        // 53 + 66 + 79 + 92 = 290
        Bench.due("the injected value", x.injected(0, 3), 145);
        Bench.due("finished conversions", x.state(4), 8);
        ConverterScanner odd = Bench.made("channel 0 base 3;regular 0;over 1 shift 2;trigger 0 regular;");
        odd.fire(0);
        odd.run(30);
        Bench.due("6 / 4 rounded down", odd.queued(0, 3), 1);
        ConverterScanner trimmed = Bench.made("channel 0 base 3 trim 1;regular 0;over 1 shift 1;trigger 0 regular;");
        trimmed.fire(0);
        trimmed.run(30);
        Bench.due("the trim is subtracted after the shift", trimmed.queued(0, 3), 2);
    }

    private static void promise7Groups() {
        ConverterScanner x = Bench.made("regular 1 2 3 4 5;group 2;trigger 0 regular;queue 16;injected 6;auto;");
        int[] positions = {2, 4, 0, 2};
        int[] results = {2, 4, 5, 7};
        for (int i = 0; i < 4; i++) {
            Bench.due("fire group " + i, x.fire(0), 1);
            x.run(45);
            Bench.due("position after group " + i, x.sequence(false, 2), positions[i]);
            Bench.due("busy after group " + i, x.sequence(false, 1), 0);
            Bench.due("results after group " + i, x.sequence(false, 5), results[i]);
            Bench.due("passes after group " + i, x.sequence(false, 6), i + 1);
            Bench.due("auto passes after group " + i, x.sequence(true, 6), i + 1);
            x.run(20);
        }
        Bench.due("the channel of the last group", x.queued(6, 0), 2);
        ConverterScanner wide = Bench.made("regular 1 2;group 8;trigger 0 regular;");
        wide.fire(0);
        Bench.due("a group longer than the sequence", wide.run(100), 2);
        Bench.due("position after it", wide.sequence(false, 2), 0);
    }

    private static void promise7Timers() {
        ConverterScanner x = Bench.made("trigger 0 regular every 7 from 3;trigger 1 injected every 1;"
                + "trigger 2 regular every 5;trigger 3 regular;");
        x.run(3);
        Bench.due("before the first cycle", x.trigger(0, 3), 0);
        Bench.due("every cycle", x.trigger(1, 3), 3);
        Bench.due("from cycle 0", x.trigger(2, 3), 1);
        x.run(1);
        Bench.due("in the first cycle", x.trigger(0, 3), 1);
        x.run(6);
        Bench.due("before the second time", x.trigger(0, 3), 1);
        x.run(1);
        Bench.due("the second time", x.trigger(0, 3), 2);
        Bench.due("every 5 cycles", x.trigger(2, 3), 3);
        Bench.due("without a timer", x.trigger(3, 3), 0);
        Bench.due("missed without entries", x.trigger(1, 4), 11);
        // Both fire in one cycle: the one of the lower number comes first.
        ConverterScanner both = Bench.made("regular 0;trigger 2 regular every 50;trigger 1 regular every 50;");
        both.run(1);
        Bench.due("the one that started", both.sequence(false, 3), 1);
        Bench.due("the one that was missed", both.trigger(2, 4), 1);
        // The injected sequence goes first, though the regular one became busy in the same cycle before it.
        ConverterScanner first = Bench.made("regular 0;injected 1;trigger 0 regular every 50;trigger 3 injected every 50;");
        first.run(1);
        Bench.due("the injected one goes ahead", first.state(1), 2);
        Bench.due("nothing was broken off", first.state(5), 0);
        Bench.due("both are busy", first.sequence(false, 1) + first.sequence(true, 1), 2);
        first.run(15);
        Bench.due("then comes the regular one", first.state(1), 1);
    }

    private static void promise7BreakOff() {
        String text = "regular 0;injected 1;channel 0 base 10;trigger 0 regular;trigger 1 injected every 5000 from 20;";
        ConverterScanner x = Bench.made(text + "over 1 shift 0;");
        x.fire(0);
        x.run(20);
        Bench.due("one conversion counts", x.sequence(false, 7), 1);
        Bench.due("the conversion in progress", x.state(1), 1);
        x.run(1);
        Bench.due("the injected conversion started in the same cycle", x.state(3), 14);
        Bench.due("it is the injected one", x.state(1), 2);
        Bench.due("broken off", x.state(5), 1);
        Bench.due("without keep none counts", x.sequence(false, 7), 0);
        Bench.due("the regular one is still busy", x.sequence(false, 1), 1);
        Bench.due("the injected result", x.run(29), 1);
        Bench.due("the regular one was begun anew", x.sequence(false, 7), 0);
        x.run(30);
        Bench.due("the regular result comes after two conversions", x.queued(0, 2), 20 + 30 + 30 - 1);
        Bench.due("the value of two conversions", x.queued(0, 3), 20);
        Bench.due("finished conversions", x.state(4), 5);
        ConverterScanner keep = Bench.made(text + "over 1 shift 0 keep;");
        keep.fire(0);
        keep.run(21);
        Bench.due("with keep one counts", keep.sequence(false, 7), 1);
        keep.run(44);
        Bench.due("the regular result comes after one conversion", keep.queued(0, 2), 20 + 30 + 15 - 1);
        Bench.due("the value of two conversions", keep.queued(0, 3), 20);
    }

    private static void promise7BreakOffBetweenConversions() {
        ConverterScanner x = Bench.made("regular 0;injected 1;channel 0 base 10;trigger 0 regular;trigger 1 injected;"
                + "over 1 shift 0;");
        x.fire(0);
        x.run(15);
        Bench.due("none is in progress", x.state(1), 0);
        x.fire(1);
        Bench.due("nothing is broken off", x.state(5), 0);
        Bench.due("the first conversion counts", x.sequence(false, 7), 1);
        Bench.due("results in the next 45 cycles", x.run(45), 2);
        Bench.due("the regular value", x.queued(0, 3), 20);
        // Conversions of the injected sequence are not broken off.
        ConverterScanner twice = Bench.made("injected 0 1;trigger 1 injected;trigger 0 injected;");
        twice.fire(1);
        twice.run(5);
        Bench.due("a second trigger of it is missed", twice.fire(0), 0);
        Bench.due("nothing is broken off", twice.state(5), 0);
        Bench.due("its position", twice.sequence(true, 2), 0);
        twice.run(10);
        Bench.due("its position after one result", twice.sequence(true, 2), 1);
        twice.run(15);
        Bench.due("its position after its pass", twice.sequence(true, 2), 0);
    }

    private static void promise7AutoAndContinuous() {
        ConverterScanner x = Bench.made("regular 0;injected 1;auto;continuous;trigger 3 regular;trigger 2 injected;");
        x.run(4);
        x.fire(3);
        x.run(15);
        Bench.due("the injected one is busy", x.sequence(true, 1), 1);
        Bench.due("started by the same trigger", x.sequence(true, 3), 3);
        Bench.due("in the cycle of the result", x.sequence(true, 4), 18);
        Bench.due("this is not counted as fired", x.trigger(3, 3), 1);
        Bench.due("the regular one goes on", x.sequence(false, 1), 1);
        Bench.due("with its trigger", x.sequence(false, 3), 3);
        Bench.due("with its starting cycle", x.sequence(false, 4), 4);
        Bench.due("nothing was broken off", x.state(5), 0);
        x.run(1);
        Bench.due("the injected one goes ahead", x.state(1), 2);
        x.run(14);
        Bench.due("the injected result carries the trigger", x.injected(0, 1), 3);
        Bench.due("the injected sequence has no trigger", x.sequence(true, 3), NONE);
        Bench.due("the injected sequence has no cycle", x.sequence(true, 4), NONE);
        x.run(15);
        Bench.due("the second regular result", x.queued(1, 2), 4 + 45 - 1);
        Bench.due("regular latency", x.latency(false), (14 + 44) / 2.0);
        Bench.due("injected latency", x.latency(true), 15);
        Bench.due("auto without entries", Bench.made("regular 0;auto;trigger 0 regular every 1;").run(150), 10);
        // A busy injected sequence is not started by auto.
        ConverterScanner busy = Bench.made("regular 0;injected 1 2;auto;group 1;trigger 0 regular;trigger 1 injected;");
        busy.fire(0);
        busy.run(15);
        Bench.due("auto starts it", busy.sequence(true, 4), 14);
        Bench.due("a trigger misses it then", busy.fire(1), 0);
        ConverterScanner grouped = Bench.made("regular 0 1 2 3 4;group 2;continuous;trigger 0 regular;queue 8;");
        grouped.fire(0);
        Bench.due("continuous groups", grouped.run(15 * 6), 6);
        Bench.due("passes of continuous groups", grouped.sequence(false, 6), 3);
        Bench.due("the sixth channel", grouped.queued(5, 0), 0);
    }

    private static void promise7Windows() {
        ConverterScanner x = Bench.made("regular 0 1 2;injected 1;continuous;trigger 1 regular;trigger 2 injected;"
                + "channel 0 base 10;channel 1 base 20;channel 2 base 30;"
                + "window 0 low 10 high 20 delay 2 on 0 1;window 1 low 11 high 19 delay 3 on 0 1;"
                + "window 2 low 0 high 29 delay 1 on 2;");
        x.fire(1);
        x.run(30);
        Bench.due("the bounds are inside", x.window(0, 4), 0);
        Bench.due("below low and above high", x.window(1, 4), 2);
        Bench.due("not raised before the delay", x.window(1, 5), 0);
        Bench.due("no cycle", x.window(1, 6), NONE);
        Bench.due("another channel's window", x.window(2, 4), 0);
        x.run(15);
        Bench.due("a result of another channel", x.window(1, 4), 2);
        Bench.due("the delay of 1", x.window(2, 5), 1);
        x.fire(2);
        x.run(15);
        Bench.due("raised by an injected result", x.window(1, 5), 1);
        Bench.due("its cycle", x.window(1, 6), 59);
        Bench.due("its channel", x.window(1, 7), 1);
        Bench.due("its trigger", x.window(1, 8), 2);
        x.run(15);
        Bench.due("the count goes on", x.window(1, 4), 4);
        Bench.due("the cycle stays", x.window(1, 6), 59);
        Bench.due("the trigger stays", x.window(1, 8), 2);
        x.setSignal(1, 15, 0, 1);
        x.run(15);
        Bench.due("a result inside", x.window(1, 4), 0);
        Bench.due("it stays raised", x.window(1, 5), 1);
    }

    private static void promise7Queue() {
        String text = "channel 0 base 10 slope 1 period 9999 sample 1;regular 0;continuous;trigger 0 regular;";
        ConverterScanner x = Bench.made(text);
        x.fire(0);
        x.run(13 * 6);
        Bench.due("overruns", x.state(6), 2);
        Bench.due("results in the queue", x.state(9), 4);
        for (int i = 0; i < 4; i++) {
            Bench.due("the oldest ones stay " + i, x.queued(i, 3), 10 + 13 * i);
        }
        Bench.due("lost results count", x.channel(0, 5), 6);
        ConverterScanner newest = Bench.made(text + "queue 3 newest;");
        newest.fire(0);
        newest.run(13 * 8);
        Bench.due("overruns with newest", newest.state(6), 5);
        Bench.due("results in the queue with newest", newest.state(9), 3);
        for (int i = 0; i < 3; i++) {
            Bench.due("the newest ones stay " + i, newest.queued(i, 3), 10 + 13 * (i + 5));
        }
        ConverterScanner wide = Bench.made(text + "queue 16;");
        wide.fire(0);
        wide.run(13 * 17);
        Bench.due("overruns of 16", wide.state(6), 1);
        Bench.due("take of 16", wide.take(), 10);
        wide.run(13);
        Bench.due("the last one behind the ring's end", wide.queued(15, 3), 10 + 13 * 17);
    }

    private static void promise7Transfer() {
        ConverterScanner x = Bench.made("channel 0 base 10 slope 1 period 9999 sample 1;regular 0 0;trigger 0 regular;"
                + "pace 13;");
        x.run(1);
        x.fire(0);
        x.run(13);
        Bench.due("finished in cycle 13, no transfer then", x.memorySize(), 0);
        x.run(11);
        Bench.due("not before cycle 25", x.memorySize(), 0);
        x.run(1);
        Bench.due("in cycle 25", x.memorySize(), 1);
        Bench.due("transferred", x.state(7), 1);
        Bench.due("the queue after it", x.state(9), 0);
        Bench.due("its value", x.stored(0, 3), 11);
        // In cycle 12 a result is finished, and transferred in the same cycle.
        ConverterScanner same = Bench.made("channel 0 sample 1;regular 0;trigger 0 regular every 13;pace 13;");
        same.run(13);
        Bench.due("a transfer after the result in one cycle", same.memorySize(), 1);
        ConverterScanner full = Bench.made("channel 0 sample 1 base 5 slope 1 period 9999;regular 0;continuous;"
                + "trigger 0 regular every 9999;pace 1;");
        full.run(13 * 70);
        Bench.due("the memory holds", full.memorySize(), 64);
        Bench.due("transferred of 70", full.state(7), 70);
        Bench.due("the oldest in the memory", full.stored(0, 3), 5 + 6 * 13);
        Bench.due("the latest in the memory", full.stored(63, 3), 5 + 69 * 13);
        Bench.dueThrow("stored(64, 0)", full, Bench.ABSENT, () -> full.stored(64, 0));
    }

    private static void promise8Fire() {
        ConverterScanner x = Bench.made("regular 0;injected 1;trigger 0 regular;trigger 1 regular every 9 from 5;"
                + "trigger 3 injected;");
        Bench.dueThrow("fire(4)", x, Bench.BOUNDS, () -> x.fire(4));
        Bench.dueThrow("fire(-1)", x, Bench.BOUNDS, () -> x.fire(-1));
        Bench.due("fire without target", x.fire(2), 0);
        Bench.due("it fired", x.trigger(2, 3), 1);
        Bench.due("it was missed", x.trigger(2, 4), 1);
        Bench.due("fire", x.fire(0), 1);
        Bench.due("busy at once", x.sequence(false, 1), 1);
        Bench.due("no conversion yet", x.state(1), 0);
        Bench.due("fire when busy", x.fire(1), 0);
        Bench.due("the cycle does not pass", x.state(0), 0);
        x.run(2);
        Bench.due("fire injected", x.fire(3), 1);
        Bench.due("broken off at once", x.state(5), 1);
        Bench.due("none in progress", x.state(2), NONE);
        Bench.due("none in progress", x.state(3), NONE);
        Bench.due("the cycle it began in", x.sequence(true, 4), 2);
        ConverterScanner bare = Bench.made("trigger 0 regular;trigger 1 injected;");
        Bench.due("fire without entries", bare.fire(0) + bare.fire(1), 0);
        Bench.due("missed without entries", bare.trigger(0, 4) + bare.trigger(1, 4), 2);
    }

    private static void promise9Stop() {
        ConverterScanner x = Bench.made("regular 0 1 2;injected 3;group 2;over 1 shift 0 keep;trigger 0 regular;"
                + "trigger 1 injected;");
        Bench.due("stop of an idle one", x.stop(), 0);
        x.fire(0);
        x.run(50);
        Bench.due("conversions that count", x.sequence(false, 7), 1);
        Bench.due("stop", x.stop(), 1);
        int[] sequence = {3, 0, 0, NONE, NONE, 1, 0, 0};
        for (int what = 0; what < 8; what++) {
            Bench.due("regular sequence after stop " + what, x.sequence(false, what), sequence[what]);
        }
        Bench.due("broken off", x.state(5), 1);
        Bench.due("none in progress", x.state(1), 0);
        x.fire(0);
        x.run(60);
        Bench.due("the position between groups", x.sequence(false, 2), 2);
        Bench.due("stop of an idle one", x.stop(), 0);
        Bench.due("its position is 0 too", x.sequence(false, 2), 0);
        x.fire(0);
        x.run(30);
        Bench.due("stop between results", x.stop(), 1);
        Bench.due("nothing broken off then", x.state(5), 1);
        x.fire(0);
        x.run(15);
        Bench.due("stop between conversions", x.stop(), 1);
        Bench.due("nothing broken off then", x.state(5), 1);
        Bench.due("the first conversion does not count", x.sequence(false, 7), 0);
        x.fire(0);
        x.fire(1);
        x.run(2);
        Bench.due("stop during an injected conversion", x.stop(), 1);
        Bench.due("which goes on", x.state(1), 2);
        Bench.due("nothing broken off then", x.state(5), 1);
        Bench.due("only the injected result comes", x.run(100), 1);
    }

    private static void promise10Take() {
        ConverterScanner x = Bench.made("regular 0 1;channel 0 base 8;channel 1 base 9;trigger 0 regular;queue 2;");
        Bench.dueThrow("take of an empty queue", x, Bench.ABSENT, () -> x.take());
        x.fire(0);
        x.run(30);
        Bench.due("take", x.take(), 8);
        Bench.due("one is left", x.state(9), 1);
        Bench.due("nothing was transferred", x.state(7) + x.memorySize(), 0);
        x.fire(0);
        x.run(15);
        Bench.due("take", x.take(), 9);
        Bench.due("take", x.take(), 8);
        Bench.dueThrow("take of an emptied queue", x, Bench.ABSENT, () -> x.take());
        Bench.due("no overruns", x.state(6), 0);
    }

    private static void promise11Acknowledge() {
        ConverterScanner x = Bench.made("regular 0;continuous;trigger 0 regular;window 1 low 1 high 1 delay 2 on 0;");
        Bench.dueThrow("acknowledge(0)", x, Bench.BOUNDS, () -> x.acknowledge(0));
        Bench.dueThrow("acknowledge(3)", x, Bench.BOUNDS, () -> x.acknowledge(3));
        Bench.dueThrow("acknowledge(-1)", x, Bench.BOUNDS, () -> x.acknowledge(-1));
        x.fire(0);
        x.run(15);
        Bench.due("acknowledge of a calm one", x.acknowledge(1), 0);
        Bench.due("its count", x.window(1, 4), 0);
        x.run(15);
        Bench.due("the count began anew", x.window(1, 5), 0);
        x.run(15);
        Bench.due("raised", x.window(1, 5), 1);
        Bench.due("acknowledge", x.acknowledge(1), 1);
        int[] window = {1, 1, 2, 1, 0, 0, NONE, NONE, NONE};
        for (int what = 0; what < 9; what++) {
            Bench.due("window after acknowledge " + what, x.window(1, what), window[what]);
        }
        x.run(30);
        Bench.due("raised again", x.window(1, 6), 74);
    }

    private static void promise12SetSignal() {
        ConverterScanner x = Bench.made("regular 2;trigger 0 regular;channel 2 base 7 slope 1 period 9;");
        Bench.dueThrow("setSignal(8, ...)", x, Bench.BOUNDS, () -> x.setSignal(8, -1, 0, 1));
        Bench.dueThrow("setSignal(-1, ...)", x, Bench.BOUNDS, () -> x.setSignal(-1, 0, 0, 1));
        Bench.dueThrow("setSignal base -1", x, Bench.ILLEGAL, () -> x.setSignal(2, -1, 0, 1));
        Bench.dueThrow("setSignal base 4096", x, Bench.ILLEGAL, () -> x.setSignal(2, 4096, 0, 1));
        Bench.dueThrow("setSignal slope -100", x, Bench.ILLEGAL, () -> x.setSignal(2, 1, -100, 1));
        Bench.dueThrow("setSignal slope 100", x, Bench.ILLEGAL, () -> x.setSignal(2, 1, 100, 1));
        Bench.dueThrow("setSignal period 0", x, Bench.ILLEGAL, () -> x.setSignal(2, 1, 0, 0));
        Bench.dueThrow("setSignal period 10000", x, Bench.ILLEGAL, () -> x.setSignal(2, 1, 0, 10000));
        x.run(100);
        Bench.due("setSignal", x.setSignal(2, 4095, -99, 9999), 0);
        Bench.due("setSignal", x.setSignal(2, 0, 99, 30), 990);
        Bench.due("setSignal", x.setSignal(0, 5, 0, 1), 5);
        Bench.due("the base", x.channel(2, 2), 0);
        Bench.due("the slope", x.channel(2, 3), 99);
        Bench.due("the period", x.channel(2, 4), 30);
        x.fire(0);
        x.run(2);
        x.setSignal(2, 40, 0, 1);
        x.run(1);
        x.setSignal(2, 50, 0, 1);
        x.run(12);
        Bench.due("the last cycle of the sample time tells", x.queued(0, 3), 40);
    }

    private static void promise13SetSample() {
        ConverterScanner x = Bench.made("regular 2 2;trigger 0 regular;channel 2 slope 1 period 9999;");
        Bench.dueThrow("setSample(8, 1)", x, Bench.BOUNDS, () -> x.setSample(8, 0));
        Bench.dueThrow("setSample(-1, 1)", x, Bench.BOUNDS, () -> x.setSample(-1, 1));
        Bench.dueThrow("setSample(2, 0)", x, Bench.ILLEGAL, () -> x.setSample(2, 0));
        Bench.dueThrow("setSample(2, 100)", x, Bench.ILLEGAL, () -> x.setSample(2, 100));
        x.fire(0);
        x.run(1);
        Bench.due("setSample", x.setSample(2, 99), 3);
        Bench.due("the conversion keeps its own", x.state(3), 14);
        Bench.due("setSample", x.setSample(2, 1), 99);
        x.run(28);
        Bench.due("the sample time of the first one", x.queued(0, 3), 2);
        Bench.due("the cycle of the first one", x.queued(0, 2), 14);
        Bench.due("the sample time of the second one", x.queued(1, 3), 15);
        Bench.due("the cycle of the second one", x.queued(1, 2), 27);
        Bench.due("the sample time", x.channel(2, 0), 1);
    }

    private static void promise14SetWindow() {
        ConverterScanner x = Bench.made("regular 2;continuous;trigger 0 regular;window 0 low 1 high 2 delay 2 on 2;");
        Bench.dueThrow("setWindow(1, ...)", x, Bench.BOUNDS, () -> x.setWindow(1, 9, 3));
        Bench.dueThrow("setWindow(3, ...)", x, Bench.BOUNDS, () -> x.setWindow(3, 0, 3));
        Bench.dueThrow("setWindow(-1, ...)", x, Bench.BOUNDS, () -> x.setWindow(-1, 0, 3));
        Bench.dueThrow("setWindow low -1", x, Bench.ILLEGAL, () -> x.setWindow(0, -1, 3));
        Bench.dueThrow("setWindow high 65536", x, Bench.ILLEGAL, () -> x.setWindow(0, 0, 65536));
        Bench.dueThrow("setWindow low 65536", x, Bench.ILLEGAL, () -> x.setWindow(0, 65536, 65536));
        Bench.dueThrow("setWindow low above high", x, Bench.ILLEGAL, () -> x.setWindow(0, 4, 3));
        x.fire(0);
        x.run(15);
        Bench.due("setWindow of a calm one", x.setWindow(0, 65535, 65535), 0);
        Bench.due("its count stays", x.window(0, 4), 1);
        x.run(15);
        Bench.due("setWindow of a raised one", x.setWindow(0, 0, 0), 1);
        Bench.due("it stays raised", x.window(0, 6), 29);
        Bench.due("its count stays", x.window(0, 4), 2);
        Bench.due("low", x.window(0, 0), 0);
        Bench.due("high", x.window(0, 1), 0);
        x.run(15);
        Bench.due("a result inside", x.window(0, 4), 0);
        x.setWindow(0, 3, 4444);
        Bench.due("the low bound that is set", x.window(0, 0), 3);
        Bench.due("the high bound that is set", x.window(0, 1), 4444);
        x.setSignal(2, 3, 0, 1);
        x.run(15);
        Bench.due("a result at the low bound", x.window(0, 4), 0);
        x.setSignal(2, 2, 0, 1);
        x.run(15);
        Bench.due("a result below the low bound", x.window(0, 4), 1);
    }

    private static void promise15SetPace() {
        ConverterScanner x = Bench.made("regular 2 2 2;trigger 0 regular;pace 7;");
        Bench.dueThrow("setPace(-1)", x, Bench.ILLEGAL, () -> x.setPace(-1));
        Bench.dueThrow("setPace(1000)", x, Bench.ILLEGAL, () -> x.setPace(1000));
        Bench.due("setPace(999)", x.setPace(999), 7);
        Bench.due("setPace(0)", x.setPace(0), 999);
        x.fire(0);
        x.run(48);
        Bench.due("no transfers at pace 0", x.state(9), 3);
        Bench.due("setPace(50)", x.setPace(50), 0);
        x.run(1);
        Bench.due("not in cycle 48", x.memorySize(), 0);
        x.run(1);
        Bench.due("in cycle 49", x.memorySize(), 1);
        x.setPace(1);
        x.run(5);
        Bench.due("a transfer a cycle, as long as there are some", x.state(7), 3);
    }
}
