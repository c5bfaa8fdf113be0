/** Promises 30 to 36: predictions, by which nothing changes, and saved states. */
public final class PredictionTest {
    private static final int NONE = ConverterScanner.NONE;

    public static void main(String[] args) {
        promise30NextResult();
        promise31WhenRaised();
        promise32OverrunsWith();
        promise33SlowestPace();
        promise34PassLength();
        promise35And36SaveAndRestore(0);
        promise35And36SaveAndRestore(1);
        promise36TwoSlots();
        promise36WithinAPassAndAResult();
        Bench.end("PredictionTest");
    }

    private static void promise30NextResult() {
        ConverterScanner x = Bench.made("regular 0;injected 1;trigger 0 regular;trigger 1 injected every 2000 from 100;");
        Bench.dueThrow("nextResult(0)", x, Bench.ILLEGAL, () -> x.nextResult(0));
        Bench.dueThrow("nextResult(5001)", x, Bench.ILLEGAL, () -> x.nextResult(5001));
        String before = Bench.everything(x);
        Bench.due("nextResult too soon", x.nextResult(114), NONE);
        Bench.due("nextResult of a timer", x.nextResult(115), 114);
        Bench.due("nextResult(5000)", x.nextResult(5000), 114);
        x.fire(0);
        Bench.due("nextResult of the regular one", x.nextResult(5000), 14);
        x.run(10);
        Bench.due("nextResult too soon", x.nextResult(4), NONE);
        Bench.due("nextResult of the present pass", x.nextResult(5), 14);
        x.stop();
        Bench.due("nextResult after stop", x.nextResult(5000), 114);
        ConverterScanner same = Bench.made("regular 0;injected 1;trigger 0 regular;"
                + "trigger 1 injected every 2000 from 100;");
        same.nextResult(5000);
        Bench.dueText("what is told after nextResult", Bench.everything(same), before);
        ConverterScanner bare = new ConverterScanner();
        Bench.due("nextResult of a new object", bare.nextResult(5000), NONE);
    }

    private static void promise31WhenRaised() {
        ConverterScanner x = Bench.made("regular 0;continuous;trigger 0 regular;window 2 low 1 high 1 delay 3 on 0;");
        Bench.dueThrow("whenRaised(0, 1)", x, Bench.BOUNDS, () -> x.whenRaised(0, 0));
        Bench.dueThrow("whenRaised(3, 1)", x, Bench.BOUNDS, () -> x.whenRaised(3, 1));
        Bench.dueThrow("whenRaised(-1, 1)", x, Bench.BOUNDS, () -> x.whenRaised(-1, 1));
        Bench.dueThrow("whenRaised(2, 0)", x, Bench.ILLEGAL, () -> x.whenRaised(2, 0));
        Bench.dueThrow("whenRaised(2, 5001)", x, Bench.ILLEGAL, () -> x.whenRaised(2, 5001));
        Bench.due("whenRaised of an idle one", x.whenRaised(2, 5000), NONE);
        x.fire(0);
        String before = Bench.everything(x);
        Bench.due("whenRaised too soon", x.whenRaised(2, 44), NONE);
        Bench.due("whenRaised", x.whenRaised(2, 45), 44);
        Bench.dueText("what is told after whenRaised", Bench.everything(x), before);
        x.run(20);
        Bench.due("whenRaised with a count", x.whenRaised(2, 25), 44);
        x.run(25);
        Bench.due("raised", x.window(2, 6), 44);
        Bench.due("whenRaised of a raised one", x.whenRaised(2, 5000), NONE);
        Bench.dueThrow("whenRaised of a raised one", x, Bench.ILLEGAL, () -> x.whenRaised(2, 0));
        x.acknowledge(2);
        Bench.due("whenRaised after acknowledge", x.whenRaised(2, 5000), 89);
    }

    private static void promise32OverrunsWith() {
        ConverterScanner x = Bench.made("regular 0;continuous;trigger 0 regular;queue 1;pace 1;");
        Bench.dueThrow("overrunsWith(-1, 1)", x, Bench.ILLEGAL, () -> x.overrunsWith(-1, 1));
        Bench.dueThrow("overrunsWith(1000, 1)", x, Bench.ILLEGAL, () -> x.overrunsWith(1000, 1));
        Bench.dueThrow("overrunsWith(0, 0)", x, Bench.ILLEGAL, () -> x.overrunsWith(0, 0));
        Bench.dueThrow("overrunsWith(0, 5001)", x, Bench.ILLEGAL, () -> x.overrunsWith(0, 5001));
        x.fire(0);
        String before = Bench.everything(x);
        Bench.due("overrunsWith(0, 5000)", x.overrunsWith(0, 5000), 332);
        Bench.due("overrunsWith(0, 29)", x.overrunsWith(0, 29), 0);
        Bench.due("overrunsWith(0, 30)", x.overrunsWith(0, 30), 1);
        Bench.due("overrunsWith(15, 5000)", x.overrunsWith(15, 5000), 0);
        Bench.due("overrunsWith(30, 300)", x.overrunsWith(30, 300), 10);
        // Five transfers, the last one in cycle 4994, when the last result has just been lost.
        Bench.due("overrunsWith(999, 5000)", x.overrunsWith(999, 5000), 332 - 4);
        Bench.dueText("what is told after overrunsWith", Bench.everything(x), before);
        x.setPace(0);
        x.run(100);
        Bench.due("overruns so far do not count", x.overrunsWith(0, 20), 2);
        Bench.due("overruns so far", x.state(6), 5);
    }

    private static void promise33SlowestPace() {
        ConverterScanner x = Bench.made("regular 0;continuous;trigger 0 regular;queue 1;");
        Bench.dueThrow("slowestPace(0)", x, Bench.ILLEGAL, () -> x.slowestPace(0));
        Bench.dueThrow("slowestPace(501)", x, Bench.ILLEGAL, () -> x.slowestPace(501));
        Bench.due("slowestPace of an idle one", x.slowestPace(500), 60);
        x.fire(0);
        String before = Bench.everything(x);
        // A transfer in cycle 28 is in time for the result in cycle 29, one in cycle 29 would not be.
        Bench.due("slowestPace(30)", x.slowestPace(30), 29);
        Bench.due("slowestPace(29)", x.slowestPace(29), 60);
        Bench.due("slowestPace(500)", x.slowestPace(500), slowest(x, 500));
        Bench.due("slowestPace(500)", x.slowestPace(500), 15);
        Bench.dueText("what is told after slowestPace", Bench.everything(x), before);
        x.run(59);
        // The queue is full, and the next result is finished in the next cycle.
        Bench.due("no pace", x.slowestPace(500), slowest(x, 500));
        x.setPace(1);
        Bench.due("the present pace has no effect", x.slowestPace(500), slowest(x, 500));
        ConverterScanner tight = Bench.made("regular 0;continuous;trigger 0 regular;queue 1;");
        tight.fire(0);
        tight.run(28);
        // Only the paces 29 and 1 transfer in cycle 28, and 29 is too slow for the result after the next one.
        Bench.due("the paces 29 and 1", tight.slowestPace(16), 29);
        Bench.due("pace 1 alone", tight.slowestPace(17), 1);
        ConverterScanner late = Bench.made("regular 0;continuous;trigger 0 regular;queue 1;");
        late.fire(0);
        late.run(29);
        Bench.due("too late for each pace", late.slowestPace(1), NONE);
        Bench.due("too late for each pace", late.slowestPace(500), NONE);
    }

    private static int slowest(ConverterScanner x, int cycles) {
        int slowest = NONE;
        for (int pace = 1; pace <= 60; pace++) {
            if (x.overrunsWith(pace, cycles) == 0) {
                slowest = pace;
            }
        }
        return slowest;
    }

    private static void promise34PassLength() {
        ConverterScanner x = Bench.made("channel 1 sample 10;channel 2 sample 99;regular 1 2 1;injected 2;group 1;"
                + "over 3 shift 0;trigger 0 regular;");
        Bench.due("passLength(false)", x.passLength(false), 8 * (22 + 111 + 22));
        Bench.due("passLength(true)", x.passLength(true), 8 * 111);
        x.setSample(1, 1);
        Bench.due("passLength after setSample", x.passLength(false), 8 * (13 + 111 + 13));
        x.fire(0);
        x.run(20);
        Bench.due("passLength of a busy one", x.passLength(false), 8 * (13 + 111 + 13));
        ConverterScanner bare = new ConverterScanner();
        Bench.due("passLength without entries", bare.passLength(false) + bare.passLength(true), 0);
    }

    private static void promise35And36SaveAndRestore(int slot) {
        ConverterScanner x = Bench.made("regular 0 1 2;injected 3 4;auto;group 2;over 1 shift 0 keep;queue 3;pace 25;"
                + "channel 0 base 9;window 0 low 0 high 5 delay 2 on 0;trigger 0 regular every 70 from 3;"
                + "trigger 1 injected every 55;");
        Bench.dueThrow("save(2)", x, Bench.ILLEGAL, () -> x.save(2));
        Bench.dueThrow("save(-1)", x, Bench.ILLEGAL, () -> x.save(-1));
        Bench.dueThrow("restore(2)", x, Bench.ILLEGAL, () -> x.restore(2));
        Bench.dueThrow("restore(-1)", x, Bench.ILLEGAL, () -> x.restore(-1));
        Bench.dueThrow("restore(0)", x, Bench.STATE, () -> x.restore(0));
        Bench.dueThrow("restore(1)", x, Bench.STATE, () -> x.restore(1));
        x.run(333);
        String before = Bench.everything(x);
        Bench.due("save", x.save(slot), 333);
        Bench.dueText("what is told after save", Bench.everything(x), before);
        Bench.dueThrow("restore of the other slot", x, Bench.STATE, () -> x.restore(1 - slot));
        change(x);
        String changed = Bench.everything(x);
        Bench.feed(x, "pace 77;");
        Bench.due("restore", x.restore(slot), 333);
        Bench.dueText("what is told after restore", Bench.everything(x), before);
        change(x);
        Bench.dueText("what is told after the same calls", Bench.everything(x), changed);
        Bench.due("restore again", x.restore(slot), 333);
        Bench.dueText("what is told after restore", Bench.everything(x), before);
        Bench.due("the buffer is not restored", x.truncate(8), 8);
        Bench.due("nor emptied", x.setup(), 1);
        Bench.due("the pace of the buffer", x.state(8), 77);
    }

    private static void change(ConverterScanner x) {
        x.run(77);
        x.setSignal(0, 4, 5, 6);
        x.setSample(1, 50);
        x.setWindow(0, 7, 8);
        x.setPace(5);
        x.fire(0);
        x.stop();
        x.fire(1);
        x.run(200);
        x.acknowledge(0);
        x.run(1000);
    }

    private static void promise36TwoSlots() {
        ConverterScanner x = Bench.made("regular 0;trigger 0 regular every 20;");
        x.run(10);
        x.save(0);
        x.run(10);
        x.save(1);
        x.run(10);
        Bench.due("restore(0)", x.restore(0), 10);
        x.run(1);
        Bench.due("restore(1)", x.restore(1), 20);
        x.run(5);
        Bench.due("save over a saved state", x.save(0), 25);
        x.restore(1);
        Bench.due("restore(0)", x.restore(0), 25);
        Bench.due("the other one stays", x.restore(1), 20);
        ConverterScanner raised = Bench.made("regular 3;trigger 2 regular;window 1 low 5 high 5 delay 1 on 3;");
        raised.fire(2);
        raised.run(15);
        String before = Bench.everything(raised);
        raised.save(0);
        raised.acknowledge(1);
        raised.restore(0);
        Bench.dueText("a raised window that is restored", Bench.everything(raised), before);
        Bench.due("its cycle", raised.window(1, 6), 14);
        Bench.due("its channel", raised.window(1, 7), 3);
        Bench.due("its trigger", raised.window(1, 8), 2);
    }

    private static void promise36WithinAPassAndAResult() {
        ConverterScanner group = Bench.made("regular 0 1 2;group 2;trigger 0 regular;");
        group.fire(0);
        group.run(5);
        group.save(1);
        group.run(25);
        group.fire(0);
        group.run(1);
        group.restore(1);
        Bench.due("the pass ends where the saved one did", group.run(100), 2);
        Bench.due("its position", group.sequence(false, 2), 2);
        ConverterScanner sum = Bench.made("channel 0 base 100;regular 0;over 1 shift 0;trigger 0 regular;");
        sum.fire(0);
        sum.run(15);
        sum.save(0);
        sum.run(15);
        sum.setSignal(0, 7, 0, 1);
        sum.restore(0);
        sum.setSignal(0, 30, 0, 1);
        sum.run(15);
        Bench.due("the saved conversion counts in the result", sum.queued(0, 3), 130);
        ConverterScanner measured = Bench.made("channel 0 base 100;regular 0;trigger 0 regular every 15;");
        measured.run(3);
        measured.save(0);
        measured.setSignal(0, 7, 0, 1);
        measured.run(27);
        Bench.due("what is measured later", measured.queued(1, 3), 7);
        measured.restore(0);
        measured.run(12);
        Bench.due("what was measured before save", measured.queued(0, 3), 100);
    }
}
