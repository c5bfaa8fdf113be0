/**
 * Sections 1 to 6 of the document at their edges: the last value inside and the first one outside, empty and full, the
 * places where something wraps, and the cycles just before and just after. Section 7 is SetupTest's and TextTest's, and
 * what is refused is RefusalTest's.
 */
public final class EdgeTest {
    private static final int NONE = ConverterScanner.NONE;

    public static void main(String[] args) {
        section1SampleTime();
        section1Trim();
        section1SignalLimits();
        section1SignalPeriod();
        section2FullSequences();
        section2Timers();
        section2MissedWhileBusy();
        section2Groups();
        section2BreakOffInEachCycle();
        section2KeepWithoutEarlierConversions();
        section2KeepWithFifteenConversions();
        section2AnIdleRegularSequence();
        section3OversamplingAndShift();
        section3LeastAndGreatestResult();
        section3Auto();
        section3Continuous();
        section4Bounds();
        section4Delay();
        section4CountBelowTheDelay();
        section4AllWindows();
        section5Capacity();
        section5FullQueueAndTransferInOneCycle();
        section5Pace();
        section5Memory();
        section6OrderInOneCycle();
        section6RemainingCycles();
        predictionsOfThePresentCycle();
        longestPass();
        Bench.end("EdgeTest");
    }

    private static ConverterScanner fired(String text, int trigger) {
        ConverterScanner x = Bench.made(text);
        Bench.due("fire " + trigger + " of " + text, x.fire(trigger), 1);
        return x;
    }

    // ---- section 1

    private static void section1SampleTime() {
        // The signal is the cycle, so that a result tells in which cycle it was measured.
        int[][] cases = {{1, 13, 0}, {2, 14, 1}, {3, 15, 2}, {98, 110, 97}, {99, 111, 98}};
        for (int[] sample : cases) {
            ConverterScanner x = fired("channel 0 slope 1 period 9999 sample " + sample[0]
                    + ";regular 0;trigger 0 regular;", 0);
            Bench.due("before the end with sample " + sample[0], x.run(sample[1] - 1), 0);
            Bench.due("at the end with sample " + sample[0], x.run(1), 1);
            Bench.due("measured with sample " + sample[0], x.queued(0, 3), sample[2]);
        }
        ConverterScanner untold = fired("channel 0 slope 1 period 9999;regular 0;trigger 0 regular;", 0);
        Bench.due("a sample time that is not told", untold.nextResult(5000), 14);
    }

    private static void section1Trim() {
        int[][] cases = {{99, 99, 0}, {99, 98, 0}, {99, 100, 1}, {-99, 0, 99}, {-99, 4095, 4194}, {1, 0, 0}, {0, 0, 0},
            {0, 1, 1}};
        for (int[] trim : cases) {
            ConverterScanner x = fired("channel 0 base " + trim[1] + " trim " + trim[0] + ";regular 0;trigger 0 regular;", 0);
            x.run(15);
            Bench.due(trim[1] + " with trim " + trim[0], x.queued(0, 3), trim[2]);
        }
    }

    private static void section1SignalLimits() {
        ConverterScanner x = new ConverterScanner();
        int[][] cases = {{1, -1, 1, 0}, {1, -1, 2, 0}, {0, 0, 5, 0}, {98, -99, 1, 0}, {100, -99, 1, 1}, {4094, 1, 1, 4095},
            {4094, 1, 2, 4095}, {4095, 0, 5, 4095}, {3996, 99, 1, 4095}, {3995, 99, 1, 4094}, {3997, 99, 1, 4095},
            {0, 99, 9998, 4095}, {4095, -99, 9998, 0}, {0, -99, 9998, 0}, {4095, 99, 9998, 4095}};
        for (int[] signal : cases) {
            x.setSignal(5, signal[0], signal[1], 9999);
            Bench.due("base " + signal[0] + " slope " + signal[1] + " in cycle " + signal[2],
                    x.signal(5, signal[2]), signal[3]);
        }
    }

    private static void section1SignalPeriod() {
        ConverterScanner x = new ConverterScanner();
        for (int period : new int[] {1, 2, 3, 40, 4000, 9998, 9999}) {
            x.setSignal(7, 50, period > 40 ? 0 : 1, period);
            for (int turn : new int[] {period, 2 * period, 7 * period, 200000 * period}) {
                Bench.due("a turn of " + period, x.signal(7, turn), 50);
                Bench.due("before a turn of " + period, x.signal(7, turn - 1), 50 + (period > 40 ? 0 : period - 1));
                Bench.due("after a turn of " + period, x.signal(7, turn + 1), 50 + (period > 40 || period == 1 ? 0 : 1));
            }
        }
        x.setSignal(7, 4095, -1, 9999);
        Bench.due("the period 9999 before its turn", x.signal(7, 9998), 0);
        Bench.due("the period 9999 at its turn", x.signal(7, 9999), 4095);
        x.setSignal(7, 0, 1, 4000);
        Bench.due("the period 4000 before its turn", x.signal(7, 3999), 3999);
        Bench.due("the period 4000 at its turn", x.signal(7, 4000), 0);
        // 2147483647 is 3647 more than a multiple of 4000, and 7 more than one of 20.
        Bench.due("the greatest cycle", x.signal(7, Integer.MAX_VALUE), 3647);
        x.setSignal(7, 0, 1, 20);
        Bench.due("the greatest cycle", x.signal(7, Integer.MAX_VALUE), 7);
        Bench.due("the first cycle", x.signal(7, 0), 0);
    }

    // ---- section 2

    private static void section2FullSequences() {
        ConverterScanner x = Bench.made("regular 7 6 5 4 3 2 1 7;injected 0 0 7 0;trigger 0 regular;trigger 1 injected;"
                + "queue 8;");
        x.fire(0);
        for (int i = 0; i < 8; i++) {
            Bench.due("the position before entry " + i, x.sequence(false, 2), i);
            Bench.due("the result of entry " + i, x.run(15), 1);
        }
        Bench.due("idle behind the eighth entry", x.sequence(false, 1), 0);
        Bench.due("position behind the eighth entry", x.sequence(false, 2), 0);
        int[] channels = {7, 6, 5, 4, 3, 2, 1, 7};
        for (int i = 0; i < 8; i++) {
            Bench.due("the channel of result " + i, x.queued(i, 0), channels[i]);
        }
        x.fire(1);
        for (int i = 0; i < 4; i++) {
            Bench.due("the position before injected entry " + i, x.sequence(true, 2), i);
            Bench.due("the result of injected entry " + i, x.run(15), 1);
        }
        Bench.due("idle behind the fourth entry", x.sequence(true, 1), 0);
        Bench.due("position behind the fourth entry", x.sequence(true, 2), 0);
        for (int i = 0; i < 4; i++) {
            Bench.due("the cycle of injected entry " + i, x.injected(i, 2), 120 + 15 * i + 14);
        }
        ConverterScanner one = fired("regular 3;injected 4;trigger 0 regular;trigger 1 injected;", 0);
        Bench.due("one entry", one.run(15), 1);
        Bench.due("idle behind one entry", one.sequence(false, 1), 0);
        one.fire(1);
        Bench.due("one injected entry", one.run(15), 1);
        Bench.due("idle behind one injected entry", one.sequence(true, 1), 0);
    }

    private static void section2Timers() {
        ConverterScanner x = Bench.made("trigger 0 regular every 9999 from 9999;trigger 1 regular every 1 from 9999;"
                + "trigger 2 regular every 9999;trigger 3 regular every 2 from 1;");
        int[][] due = {{1, 0, 0, 1, 0}, {1, 0, 0, 1, 1}, {9996, 0, 0, 1, 4999}, {1, 0, 0, 1, 4999}, {1, 1, 1, 2, 5000},
            {1, 1, 2, 2, 5000}, {9997, 1, 9999, 2, 9999}, {1, 2, 10000, 3, 9999}, {1, 2, 10001, 3, 10000}};
        for (int[] step : due) {
            for (int left = step[0]; left > 0; left -= 5000) {
                x.run(Math.min(left, 5000));
            }
            for (int i = 0; i < 4; i++) {
                Bench.due("trigger " + i + " before cycle " + x.state(0), x.trigger(i, 3), step[i + 1]);
            }
        }
        while (x.state(0) < 2_500_000) {
            x.run(5000 - x.state(0) % 5000);
        }
        Bench.due("every 9999 from 9999, for long", x.trigger(0, 3), 2_499_999 / 9999);
        Bench.due("every cycle from 9999, for long", x.trigger(1, 3), 2_500_000 - 9999);
        Bench.due("every 9999 from 0, for long", x.trigger(2, 3), 2_499_999 / 9999 + 1);
        Bench.due("every 2 from 1, for long", x.trigger(3, 3), 1_250_000);
        ConverterScanner none = Bench.made("trigger 0 regular;trigger 1 injected;");
        none.run(5000);
        for (int i = 0; i < 4; i++) {
            Bench.due("a trigger without a timer " + i, none.trigger(i, 3), 0);
        }
    }

    private static void section2MissedWhileBusy() {
        for (String sequence : new String[] {"regular", "injected"}) {
            ConverterScanner x = Bench.made(sequence + " 0;trigger 0 " + sequence + ";");
            Bench.due("fire", x.fire(0), 1);
            Bench.due("fire at once again", x.fire(0), 0);
            x.run(14);
            Bench.due("fire in the last cycle of the pass", x.fire(0), 0);
            x.run(1);
            Bench.due("fire behind the pass", x.fire(0), 1);
            Bench.due("fired", x.trigger(0, 3), 4);
            Bench.due("missed", x.trigger(0, 4), 2);
            // A timer of 14 fires in the pass's last cycle, one of 15 just behind it.
            ConverterScanner late = Bench.made(sequence + " 0;trigger 0 " + sequence + " every 14;");
            late.run(29);
            Bench.due("a timer of 14 starts", late.trigger(0, 3) - late.trigger(0, 4), 2);
            Bench.due("a timer of 14 is missed", late.trigger(0, 4), 1);
            ConverterScanner right = Bench.made(sequence + " 0;trigger 0 " + sequence + " every 15;");
            right.run(5000);
            Bench.due("a timer of 15 is never missed", right.trigger(0, 4), 0);
            Bench.due("a timer of 15 fires", right.trigger(0, 3), 334);
        }
        ConverterScanner bare = Bench.made("trigger 0 regular;trigger 1 injected;injected 0;");
        Bench.due("no regular entries", bare.fire(0), 0);
        Bench.due("injected entries", bare.fire(1), 1);
        Bench.due("no target", bare.fire(3), 0);
        Bench.due("a missed trigger starts nothing", bare.sequence(false, 1), 0);
    }

    private static void section2Groups() {
        // Entries, group length, and the positions behind the passes.
        int[][] cases = {{4, 1, 1, 2, 3, 0, 1}, {4, 2, 2, 0, 2, 0, 2}, {4, 3, 3, 0, 3, 0, 3}, {4, 4, 0, 0, 0, 0, 0},
            {4, 5, 0, 0, 0, 0, 0}, {4, 8, 0, 0, 0, 0, 0}, {8, 7, 7, 0, 7, 0, 7}, {8, 8, 0, 0, 0, 0, 0}, {1, 1, 0, 0, 0, 0, 0},
            {8, 3, 3, 6, 0, 3, 6}, {5, 4, 4, 0, 4, 0, 4}};
        for (int[] group : cases) {
            String name = group[0] + " entries in groups of " + group[1];
            ConverterScanner x = Bench.made("regular" + " 0".repeat(group[0]) + ";group " + group[1] + ";trigger 0 regular;");
            int position = 0;
            for (int pass = 2; pass < group.length; pass++) {
                int results = (group[pass] == 0 ? group[0] : group[pass]) - position;
                Bench.due("fire, " + name, x.fire(0), 1);
                x.run(15 * results - 1);
                Bench.due("busy to the last cycle, " + name, x.sequence(false, 1), 1);
                x.run(1);
                Bench.due("idle then, " + name, x.sequence(false, 1), 0);
                position = group[pass];
                Bench.due("position, " + name, x.sequence(false, 2), position);
                Bench.due("passes, " + name, x.sequence(false, 6), pass - 1);
            }
        }
        ConverterScanner injected = fired("regular 0;injected 0 1 2 3;group 1;trigger 0 injected;", 0);
        Bench.due("the injected sequence has no groups", injected.run(60), 4);
        Bench.due("its passes", injected.sequence(true, 6), 1);
    }

    private static void section2BreakOffInEachCycle() {
        for (int passed = 0; passed <= 15; passed++) {
            ConverterScanner x = fired("regular 0 1;injected 2;trigger 0 regular;trigger 1 injected;", 0);
            if (passed > 0) {
                x.run(passed);
            }
            Bench.due("fire", x.fire(1), 1);
            boolean isInProgress = passed >= 1 && passed <= 14;
            Bench.due("broken off after " + passed, x.state(5), isInProgress ? 1 : 0);
            Bench.due("none in progress after " + passed, x.state(1), 0);
            Bench.due("the regular one is busy after " + passed, x.sequence(false, 1), 1);
            x.run(15);
            Bench.due("the injected result after " + passed, x.injected(0, 2), passed + 14);
            int left = passed == 15 ? 1 : 2;
            Bench.due("the regular results after " + passed, x.run(15 * left), left);
            Bench.due("finished conversions after " + passed, x.state(4), 3);
        }
    }

    private static void section2KeepWithoutEarlierConversions() {
        for (String keep : new String[] {"", " keep"}) {
            ConverterScanner x = fired("channel 0 base 8;regular 0;injected 1;over 1 shift 0" + keep
                    + ";trigger 0 regular;trigger 1 injected;", 0);
            x.run(14);
            x.fire(1);
            Bench.due("no earlier conversion counts", x.sequence(false, 7), 0);
            x.run(30);
            Bench.due("both are made again, not one", x.run(29), 0);
            Bench.due("both are made again", x.run(1), 1);
            Bench.due("the value", x.queued(0, 3), 16);
        }
    }

    private static void section2KeepWithFifteenConversions() {
        for (boolean isKept : new boolean[] {false, true}) {
            ConverterScanner x = fired("channel 0 sample 1 slope 1 period 9999;regular 0;injected 1;over 4 shift 0"
                    + (isKept ? " keep" : "") + ";trigger 0 regular;trigger 1 injected;", 0);
            x.run(13 * 16 - 1);
            Bench.due("conversions that count", x.sequence(false, 7), 15);
            x.fire(1);
            Bench.due("conversions that count after the break", x.sequence(false, 7), isKept ? 15 : 0);
            int wait = 15 * 16 + 13 * (isKept ? 1 : 16);
            Bench.due("the injected result alone", x.run(wait - 1), 1);
            Bench.due("the regular result", x.run(1), 1);
            // Measured in the cycles 0, 13, 26 .. 182 and behind the break, or in 16 cycles behind the break.
            int behind = 13 * 16 - 1 + 15 * 16;
            int due = isKept ? 13 * (14 * 15 / 2) + behind : 16 * behind + 13 * (15 * 16 / 2);
            Bench.due("its value", x.queued(0, 3), due);
        }
    }

    private static void section2AnIdleRegularSequence() {
        ConverterScanner x = fired("injected 1;regular 0;trigger 1 injected;trigger 0 regular;", 1);
        x.run(5);
        Bench.due("a regular start breaks nothing off", x.fire(0), 1);
        Bench.due("nothing is broken off", x.state(5), 0);
        Bench.due("the injected conversion goes on", x.state(3), 10);
        x.run(10);
        Bench.due("the injected result", x.injected(0, 2), 14);
        Bench.due("the regular result", x.nextResult(15), 29);
    }

    // ---- section 3

    private static void section3OversamplingAndShift() {
        for (int over = 0; over <= 4; over++) {
            for (int shift = 0; shift <= 4; shift++) {
                String name = " with over " + over + " shift " + shift;
                ConverterScanner x = fired("channel 0 base 1001 sample 1 trim 2;regular 0;over " + over + " shift " + shift
                        + ";trigger 0 regular;", 0);
                int cycles = 13 << over;
                Bench.due("before the result" + name, x.run(cycles - 1), 0);
                Bench.due("the result" + name, x.run(1), 1);
                int due = (int) Math.floor(1001 * Math.pow(2, over) / Math.pow(2, shift)) - 2;
                Bench.due("the value" + name, x.queued(0, 3), due);
                Bench.due("conversions" + name, x.state(4), 1 << over);
                Bench.due("passLength" + name, x.passLength(false), cycles);
            }
        }
        int[][] rounded = {{15, 0}, {16, 1}, {17, 1}, {31, 1}, {32, 2}};
        for (int[] value : rounded) {
            ConverterScanner x = fired("channel 0 base " + value[0] + ";regular 0;over 0 shift 4;trigger 0 regular;", 0);
            x.run(15);
            Bench.due(value[0] + " / 16", x.queued(0, 3), value[1]);
        }
    }

    private static void section3LeastAndGreatestResult() {
        ConverterScanner x = fired("channel 0 base 4095 trim -99;regular 0;over 4 shift 0;trigger 0 regular;"
                + "window 0 low 0 high 65535 delay 1 on 0;", 0);
        x.run(15 * 16);
        Bench.due("the greatest result", x.queued(0, 3), 65619);
        Bench.due("its greatest result", x.channel(0, 7), 65619);
        Bench.due("it is above the greatest bound", x.window(0, 5), 1);
        ConverterScanner low = fired("channel 0 trim 99;regular 0;over 4 shift 4;trigger 0 regular;"
                + "window 0 low 0 high 0 delay 1 on 0;", 0);
        low.run(15 * 16);
        Bench.due("the least result", low.queued(0, 3), 0);
        Bench.due("its least result", low.channel(0, 6), 0);
        Bench.due("it is inside", low.window(0, 5), 0);
    }

    private static void section3Auto() {
        ConverterScanner x = fired("regular 0;injected 1;auto;trigger 2 regular;trigger 1 injected every 15 from 14;", 2);
        x.run(14);
        Bench.due("idle in cycle 13", x.sequence(true, 1), 0);
        x.run(1);
        // The timer breaks the last cycle of the conversion off, before the pass could end.
        Bench.due("the timer was first", x.sequence(true, 3), 1);
        Bench.due("the regular result did not come", x.sequence(false, 5), 0);
        ConverterScanner auto = fired("regular 0;injected 1;auto;trigger 2 regular;trigger 1 injected every 99 from 15;", 2);
        auto.run(15);
        Bench.due("auto starts it in the cycle of the result", auto.sequence(true, 4), 14);
        Bench.due("started by the same trigger", auto.sequence(true, 3), 2);
        Bench.due("the regular one is idle", auto.sequence(false, 1), 0);
        auto.run(1);
        Bench.due("the timer misses it a cycle later", auto.trigger(1, 4), 1);
        Bench.due("its conversion began a cycle later", auto.state(3), 14);
        Bench.due("this trigger fired but once", auto.trigger(2, 3), 1);
        Bench.due("and was not missed", auto.trigger(2, 4), 0);
        // The regular pass ends while the injected sequence is idle only: a busy one goes ahead, so no pass can end then.
        ConverterScanner bare = fired("regular 0;auto;trigger 2 regular;", 2);
        bare.run(15);
        Bench.due("auto without entries starts nothing", bare.sequence(true, 1), 0);
        Bench.due("nor is it missed", bare.trigger(2, 4), 0);
        ConverterScanner groups = fired("regular 0 1 2;injected 3;auto;group 2;trigger 2 regular;", 2);
        groups.run(15);
        Bench.due("not before the pass has ended", groups.sequence(true, 1), 0);
        groups.run(15);
        Bench.due("behind a group", groups.sequence(true, 1), 1);
    }

    private static void section3Continuous() {
        ConverterScanner x = fired("regular 0;continuous;trigger 2 regular;queue 16;", 2);
        Bench.due("a result each 15 cycles", x.run(15 * 16), 16);
        for (int i = 0; i < 16; i++) {
            Bench.due("the cycle of result " + i, x.queued(i, 2), 15 * i + 14);
            Bench.due("the trigger of result " + i, x.queued(i, 1), 2);
        }
        Bench.due("passes", x.sequence(false, 6), 16);
        Bench.due("the starting cycle", x.sequence(false, 4), 0);
        Bench.due("a trigger misses it", x.fire(2), 0);
        Bench.due("stop", x.stop(), 1);
        Bench.due("nothing comes then", x.run(5000), 0);
        ConverterScanner injected = fired("injected 0;continuous;trigger 2 injected;", 2);
        Bench.due("the injected sequence is not continuous", injected.run(5000), 1);
    }

    // ---- section 4

    private static void section4Bounds() {
        int[][] cases = {{10, 20, 9, 1}, {10, 20, 10, 0}, {10, 20, 20, 0}, {10, 20, 21, 1}, {15, 15, 14, 1}, {15, 15, 15, 0},
            {15, 15, 16, 1}, {0, 0, 0, 0}, {0, 0, 1, 1}, {0, 4094, 4095, 1}, {0, 4095, 4095, 0}, {4095, 65535, 4095, 0},
            {4096, 65535, 4095, 1}, {65535, 65535, 4095, 1}};
        for (int[] window : cases) {
            String name = window[2] + " beside " + window[0] + " to " + window[1];
            ConverterScanner x = fired("channel 0 base " + window[2] + ";regular 0;trigger 0 regular;window 0 low "
                    + window[0] + " high " + window[1] + " delay 1 on 0;", 0);
            x.run(15);
            Bench.due("count, " + name, x.window(0, 4), window[3]);
            Bench.due("raised, " + name, x.window(0, 5), window[3]);
        }
    }

    private static void section4Delay() {
        for (int delay = 1; delay <= 15; delay++) {
            ConverterScanner x = fired("regular 0;continuous;trigger 0 regular;window 0 low 1 high 1 delay " + delay
                    + " on 0;", 0);
            x.run(15 * delay - 1);
            Bench.due("count before the delay " + delay, x.window(0, 4), delay - 1);
            Bench.due("not raised before the delay " + delay, x.window(0, 5), 0);
            Bench.due("whenRaised before the delay " + delay, x.whenRaised(0, 1), 15 * delay - 1);
            x.run(1);
            Bench.due("count at the delay " + delay, x.window(0, 4), delay);
            Bench.due("raised at the delay " + delay, x.window(0, 6), 15 * delay - 1);
            x.run(15);
            Bench.due("the count goes on " + delay, x.window(0, 4), delay + 1);
            Bench.due("the cycle stays " + delay, x.window(0, 6), 15 * delay - 1);
        }
    }

    private static void section4CountBelowTheDelay() {
        ConverterScanner x = fired("regular 0;continuous;trigger 0 regular;window 1 low 1 high 1 delay 15 on 0;", 0);
        x.run(15 * 14);
        Bench.due("fourteen in sequence", x.window(1, 4), 14);
        x.setSignal(0, 1, 0, 1);
        x.run(15);
        Bench.due("one inside", x.window(1, 4), 0);
        x.setSignal(0, 0, 0, 1);
        x.run(15 * 14);
        Bench.due("fourteen again", x.window(1, 4), 14);
        Bench.due("not raised", x.window(1, 5), 0);
        Bench.due("acknowledge", x.acknowledge(1), 0);
        Bench.due("the count begins anew", x.window(1, 4), 0);
        x.run(15 * 14);
        Bench.due("fourteen a third time", x.window(1, 5), 0);
        x.run(15);
        Bench.due("the fifteenth raises it", x.window(1, 5), 1);
        Bench.due("acknowledge of a raised one", x.acknowledge(1), 1);
        Bench.due("it needs fifteen more", x.whenRaised(1, 15 * 15), x.state(0) + 15 * 15 - 1);
        Bench.due("fewer cycles do not do", x.whenRaised(1, 15 * 15 - 1), NONE);
    }

    private static void section4AllWindows() {
        ConverterScanner x = fired("channel 7 base 5;regular 7;trigger 3 regular;window 0 low 6 high 9 delay 1 on 7 0;"
                + "window 1 low 0 high 4 delay 1 on 0 1 2 3 4 5 6 7;window 2 low 6 high 9 delay 1 on 0 1 2 3 4 5 6;", 3);
        x.run(15);
        for (int i = 0; i < 3; i++) {
            Bench.due("raised " + i, x.window(i, 5), i < 2 ? 1 : 0);
            Bench.due("count " + i, x.window(i, 4), i < 2 ? 1 : 0);
            Bench.due("channel " + i, x.window(i, 7), i < 2 ? 7 : NONE);
            Bench.due("trigger " + i, x.window(i, 8), i < 2 ? 3 : NONE);
        }
        Bench.due("channels of window 0", x.window(0, 3), 0b10000001);
        Bench.due("channels of window 1", x.window(1, 3), 0b11111111);
        Bench.due("channels of window 2", x.window(2, 3), 0b01111111);
    }

    // ---- section 5

    private static void section5Capacity() {
        for (int capacity : new int[] {1, 2, 3, 4, 5, 15, 16}) {
            for (boolean isNewest : new boolean[] {false, true}) {
                String name = " of " + capacity + (isNewest ? " newest" : "");
                ConverterScanner x = fired("regular 0;continuous;trigger 0 regular;queue " + capacity
                        + (isNewest ? " newest" : "") + ";", 0);
                x.run(15 * capacity);
                Bench.due("a full queue" + name, x.state(9), capacity);
                Bench.due("no overrun" + name, x.state(6), 0);
                x.run(15);
                Bench.due("it stays full" + name, x.state(9), capacity);
                Bench.due("an overrun" + name, x.state(6), 1);
                int oldest = isNewest ? 29 : 14;
                Bench.due("the oldest" + name, x.queued(0, 2), oldest);
                Bench.due("the newest" + name, x.queued(capacity - 1, 2), oldest + 15 * (capacity - 1));
                x.take();
                Bench.due("one less" + name, x.state(9), capacity - 1);
                x.run(15);
                Bench.due("there was place" + name, x.state(6), 1);
                Bench.due("full again" + name, x.queued(capacity - 1, 2), 15 * (capacity + 2) - 1);
                Bench.due("overruns to come" + name, x.overrunsWith(0, 15 * 100), 100);
            }
        }
    }

    private static void section5FullQueueAndTransferInOneCycle() {
        // Results in the cycles 14 and 29, a transfer in cycle 29: the result comes first, when the queue is full.
        ConverterScanner x = fired("regular 0;continuous;trigger 0 regular;queue 1;pace 30;", 0);
        x.run(29);
        Bench.due("full", x.state(9), 1);
        x.run(1);
        Bench.due("an overrun in the cycle of the transfer", x.state(6), 1);
        Bench.due("transferred", x.stored(0, 2), 14);
        Bench.due("an empty queue", x.state(9), 0);
        ConverterScanner newest = fired("regular 0;continuous;trigger 0 regular;queue 1 newest;pace 30;", 0);
        newest.run(30);
        Bench.due("an overrun in the cycle of the transfer", newest.state(6), 1);
        Bench.due("the newest one is transferred", newest.stored(0, 2), 29);
        // A transfer in cycle 28 makes place in time.
        ConverterScanner early = fired("regular 0;continuous;trigger 0 regular;queue 1;pace 29;", 0);
        early.run(30);
        Bench.due("no overrun", early.state(6), 0);
    }

    private static void section5Pace() {
        for (int pace : new int[] {1, 2, 30, 998, 999}) {
            ConverterScanner x = fired("regular 0;continuous;trigger 0 regular;queue 16;pace " + pace + ";", 0);
            for (int turn = 1; turn <= 3; turn++) {
                int before = Math.max(turn * pace - 1 - x.state(0), 0);
                if (before > 0) {
                    x.run(before);
                }
                int transferred = x.state(7);
                int waiting = x.state(9);
                x.run(1);
                Bench.due("transfers in cycle " + (turn * pace - 1), x.state(7) - transferred, waiting > 0 ? 1 : 0);
            }
        }
        ConverterScanner never = fired("regular 0;continuous;trigger 0 regular;queue 16;pace 0;", 0);
        never.run(5000);
        Bench.due("no transfers at pace 0", never.state(7) + never.memorySize(), 0);
        ConverterScanner greatest = fired("regular 0;trigger 0 regular;pace 999;", 0);
        greatest.run(998);
        Bench.due("not before cycle 998", greatest.memorySize(), 0);
        greatest.run(1);
        Bench.due("in cycle 998", greatest.memorySize(), 1);
        greatest.run(999);
        Bench.due("nothing to transfer in cycle 1997", greatest.state(7), 1);
        ConverterScanner least = fired("regular 0;trigger 0 regular;pace 1;", 0);
        least.run(15);
        Bench.due("pace 1 transfers in the cycle of the result", least.memorySize(), 1);
    }

    private static void section5Memory() {
        ConverterScanner x = fired("channel 0 sample 1;regular 0;continuous;trigger 0 regular;pace 1;", 0);
        int[] sizes = {1, 63, 64, 64, 64, 64};
        int[] results = {1, 63, 64, 65, 127, 129};
        for (int i = 0; i < sizes.length; i++) {
            x.run(13 * results[i] - x.state(0));
            Bench.due("the memory of " + results[i], x.memorySize(), sizes[i]);
            Bench.due("transferred of " + results[i], x.state(7), results[i]);
            Bench.due("the oldest of " + results[i], x.stored(0, 2), 13 * (results[i] - sizes[i] + 1) - 1);
            Bench.due("the latest of " + results[i], x.stored(sizes[i] - 1, 2), 13 * results[i] - 1);
        }
    }

    // ---- section 6

    private static void section6OrderInOneCycle() {
        // A timer that fires in the cycle of the last result's end comes before it.
        ConverterScanner x = Bench.made("regular 0;trigger 0 regular every 14;trigger 1 regular every 15;");
        x.run(16);
        Bench.due("trigger 0 came first in cycle 0 and was missed in cycle 14", x.trigger(0, 4), 1);
        Bench.due("trigger 1 was missed in cycle 0", x.trigger(1, 4), 1);
        Bench.due("trigger 1 started it in cycle 15", x.sequence(false, 3), 1);
        // All four fire in one cycle, by ascending numbers.
        ConverterScanner four = Bench.made("regular 0;injected 1;trigger 3 regular every 50;trigger 2 injected every 50;"
                + "trigger 1 injected every 50;trigger 0 regular every 50;");
        four.run(1);
        Bench.due("the regular starter", four.sequence(false, 3), 0);
        Bench.due("the injected starter", four.sequence(true, 3), 1);
        Bench.due("the missed ones", four.trigger(2, 4) + four.trigger(3, 4), 2);
        // What is fired by a call comes before the timers of its cycle.
        ConverterScanner call = Bench.made("regular 0;trigger 0 regular every 50;trigger 3 regular;");
        call.fire(3);
        call.run(1);
        Bench.due("the call was first", call.sequence(false, 3), 3);
        Bench.due("the timer was missed", call.trigger(0, 4), 1);
        // A conversion starts in the cycle in which its sequence becomes busy.
        ConverterScanner same = Bench.made("regular 0;trigger 0 regular every 50 from 4;");
        same.run(4);
        Bench.due("none yet", same.state(1), 0);
        same.run(1);
        Bench.due("one of its cycles has passed", same.state(3), 14);
        Bench.due("the present cycle", same.state(0), 5);
    }

    private static void section6RemainingCycles() {
        ConverterScanner x = fired("channel 4 sample 2;regular 4 4;trigger 0 regular;", 0);
        Bench.due("before the first cycle", x.state(3), NONE);
        for (int i = 1; i <= 28; i++) {
            x.run(1);
            int left = (28 - i) % 14;
            Bench.due("cycles left after " + i, x.state(3), left == 0 ? NONE : left);
            Bench.due("its channel after " + i, x.state(2), left == 0 ? NONE : 4);
            Bench.due("its sequence after " + i, x.state(1), left == 0 ? 0 : 1);
        }
    }

    // ---- predictions

    private static void predictionsOfThePresentCycle() {
        ConverterScanner x = fired("regular 0;trigger 0 regular;window 0 low 1 high 1 delay 1 on 0;queue 1;continuous;", 0);
        x.run(29);
        x.acknowledge(0);
        Bench.due("nextResult of one cycle", x.nextResult(1), 29);
        Bench.due("whenRaised of one cycle", x.whenRaised(0, 1), 29);
        Bench.due("overrunsWith of one cycle", x.overrunsWith(999, 1), 1);
        Bench.due("slowestPace of one cycle", x.slowestPace(1), NONE);
        x.take();
        Bench.due("overrunsWith of one cycle and place", x.overrunsWith(0, 1), 0);
        Bench.due("slowestPace of one cycle and place", x.slowestPace(1), 60);
        x.run(1);
        Bench.due("nextResult of fourteen cycles", x.nextResult(14), NONE);
        Bench.due("nextResult of fifteen cycles", x.nextResult(15), 44);
        Bench.due("whenRaised of a raised one", x.whenRaised(0, 5000), NONE);
        // A result in the last one of 5000 cycles, and one behind it.
        ConverterScanner far = Bench.made("regular 0;trigger 0 regular every 9999 from 4985;"
                + "window 0 low 1 high 1 delay 1 on 0;");
        Bench.due("nextResult at the end", far.nextResult(5000), 4999);
        Bench.due("whenRaised at the end", far.whenRaised(0, 5000), 4999);
        ConverterScanner farther = Bench.made("regular 0;trigger 0 regular every 9999 from 4986;"
                + "window 0 low 1 high 1 delay 1 on 0;");
        Bench.due("nextResult behind the end", farther.nextResult(5000), NONE);
        Bench.due("whenRaised behind the end", farther.whenRaised(0, 5000), NONE);
    }

    private static void longestPass() {
        StringBuilder text = new StringBuilder("regular 0 1 2 3 4 5 6 7;injected 0 1 2 3;over 4 shift 0;");
        for (int i = 0; i < 8; i++) {
            text.append("channel ").append(i).append(" sample 99;");
        }
        ConverterScanner x = Bench.made(text.toString());
        Bench.due("the longest regular pass", x.passLength(false), 8 * 111 * 16);
        Bench.due("the longest injected pass", x.passLength(true), 4 * 111 * 16);
        for (int i = 0; i < 8; i++) {
            x.setSample(i, 1);
        }
        Bench.due("the shortest one of 8", x.passLength(false), 8 * 13 * 16);
        Bench.due("without entries", Bench.made("over 4 shift 0;regular 0;").passLength(true), 0);
    }
}
