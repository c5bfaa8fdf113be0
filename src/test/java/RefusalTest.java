import java.util.ArrayList;
import java.util.List;

/**
 * Each refused call: the exception that is due, the one that is listed first if several apply, and nothing changed.
 * A call is made on one of two objects that are alike; what both tell later on, of the buffer and the slots as well,
 * has to be the same.
 */
public final class RefusalTest {
    private static final int NONE = ConverterScanner.NONE;
    private static final int LEAST_INT = Integer.MIN_VALUE;
    private static final int GREATEST_INT = Integer.MAX_VALUE;

    interface Scene {
        ConverterScanner make();
    }

    interface Refused {
        double on(ConverterScanner x);
    }

    public static void main(String[] args) {
        promise2Append();
        promise3Truncate();
        promise7Run();
        promise8Fire();
        promise10Take();
        promise11Acknowledge();
        promise12SetSignal();
        promise13SetSample();
        promise14SetWindow();
        promise15SetPace();
        promise16And17StateAndSequence();
        promise18Entry();
        promise19To21Channel();
        promise22Trigger();
        promise23Window();
        promise24Signal();
        promise25And26Results();
        promise28Injected();
        promise29Latency();
        promise30And31NextResultAndWhenRaised();
        promise32And33Paces();
        promise35And36Slots();
        Bench.end("RefusalTest");
    }

    // ---- the objects that are asked

    /** Something of each kind: a queue and a memory with results, a raised window, saved states, a text half made. */
    private static ConverterScanner busy() {
        ConverterScanner x = withoutSlots();
        x.save(1);
        x.run(333);
        x.save(0);
        x.run(46);
        Bench.feed(x, "pace 9;auto;queue 7");
        return x;
    }

    private static ConverterScanner withoutSlots() {
        ConverterScanner x = Bench.made("channel 0 base 100 slope 3 period 50 trim 7;channel 1 sample 9 base 4000;"
                + "channel 2 slope 5 period 800;regular 0 1 2 0;injected 2 1;group 3;auto;over 1 shift 1 keep;queue 3 newest;"
                + "pace 110;window 0 low 10 high 120 delay 1 on 0 1;window 2 low 0 high 9 delay 15 on 2;"
                + "trigger 0 regular every 170 from 3;trigger 1 injected every 230 from 100;trigger 2 regular;");
        x.run(500);
        return x;
    }

    private static ConverterScanner bare() {
        return new ConverterScanner();
    }

    private static ConverterScanner withBufferOf(int length) {
        ConverterScanner x = withoutSlots();
        String text = "channel 4 base 44;pace 12;";
        Bench.feed(x, text + " ".repeat(length - text.length()));
        return x;
    }

    // ---- the check

    private static void refused(String what, Scene scene, Class<?> due, Refused call) {
        ConverterScanner x = scene.make();
        Class<?> thrown = Bench.thrownBy(() -> call.on(x));
        Bench.dueThrown(what, thrown, due);
        Bench.dueText("what is told after " + what, aftermath(x), aftermath(scene.make()));
    }

    /** All that an object tells, now and later; it is used up by this. */
    private static String aftermath(ConverterScanner x) {
        List<String> told = new ArrayList<>();
        told.add(Bench.everything(x));
        told.add(answer(() -> x.nextResult(5000)) + answer(() -> x.whenRaised(2, 5000)) + answer(() -> x.slowestPace(500)));
        told.add(answer(() -> x.run(300)) + Bench.everything(x));
        for (int slot = 0; slot < 2; slot++) {
            int which = slot;
            told.add(answer(() -> x.restore(which)) + Bench.everything(x));
        }
        told.add("buffer " + lengthOfBuffer(x) + answer(() -> x.setup()) + Bench.everything(x));
        return String.join("\n", told);
    }

    private static String answer(Bench.Call call) {
        double[] answer = new double[1];
        Class<?> thrown = Bench.thrownBy(() -> answer[0] = call.answer());
        return (thrown == null ? answer[0] : thrown.getSimpleName()) + " ";
    }

    private static int lengthOfBuffer(ConverterScanner x) {
        int length = 900;
        while (length > 0) {
            int tried = length;
            if (Bench.thrownBy(() -> x.truncate(tried)) == null) {
                return length;
            }
            length--;
        }
        return 0;
    }

    /** The first number outside on each side, and the outermost ones. */
    private static int[] outside(int least, int most) {
        return new int[] {least - 1, most + 1, LEAST_INT, GREATEST_INT};
    }

    // ---- the calls

    private static void promise2Append() {
        for (int length : new int[] {881, 882, 899, 900}) {
            refused("append to " + length, () -> withBufferOf(length), Bench.STATE, x -> x.append(1, 2, 3, 4, 5));
        }
        Bench.due("append to 880", withBufferOf(880).append(1, 2, 3, 4, 5), 900);
        Bench.due("append to 879", withBufferOf(879).append(1, 2, 3, 4, 5), 899);
    }

    private static void promise3Truncate() {
        for (int length : outside(0, 0)) {
            refused("truncate empty to " + length, RefusalTest::bare, Bench.ILLEGAL, x -> x.truncate(length));
        }
        for (int length : outside(0, "pace 9;auto;queue 7".length())) {
            refused("truncate to " + length, RefusalTest::busy, Bench.ILLEGAL, x -> x.truncate(length));
        }
        for (int length : outside(0, 900)) {
            refused("truncate 900 to " + length, () -> withBufferOf(900), Bench.ILLEGAL, x -> x.truncate(length));
        }
        Bench.due("truncate to its length", withBufferOf(900).truncate(900), 900);
        Bench.due("truncate to nothing", withBufferOf(900).truncate(0), 0);
        Bench.due("truncate empty to nothing", bare().truncate(0), 0);
    }

    private static void promise7Run() {
        for (int cycles : outside(1, 5000)) {
            refused("run(" + cycles + ")", RefusalTest::busy, Bench.ILLEGAL, x -> x.run(cycles));
        }
        refused("run(-5)", RefusalTest::bare, Bench.ILLEGAL, x -> x.run(-5));
    }

    private static void promise8Fire() {
        for (int trigger : outside(0, 3)) {
            refused("fire(" + trigger + ")", RefusalTest::busy, Bench.BOUNDS, x -> x.fire(trigger));
        }
    }

    private static void promise10Take() {
        refused("take of a new object", RefusalTest::bare, Bench.ABSENT, x -> x.take());
        refused("take of an emptied queue", RefusalTest::drained, Bench.ABSENT, x -> x.take());
    }

    private static ConverterScanner drained() {
        ConverterScanner x = busy();
        while (x.state(9) > 0) {
            x.take();
        }
        return x;
    }

    private static void promise11Acknowledge() {
        for (int window : noWindows()) {
            refused("acknowledge(" + window + ")", RefusalTest::busy, Bench.BOUNDS, x -> x.acknowledge(window));
        }
        for (int window = 0; window < 3; window++) {
            int untold = window;
            refused("acknowledge(" + window + ")", RefusalTest::bare, Bench.BOUNDS, x -> x.acknowledge(untold));
        }
    }

    /** Window 1 is not told. */
    private static int[] noWindows() {
        return new int[] {-1, 1, 3, LEAST_INT, GREATEST_INT};
    }

    private static void promise12SetSignal() {
        for (int channel : outside(0, 7)) {
            refused("setSignal channel " + channel, RefusalTest::busy, Bench.BOUNDS, x -> x.setSignal(channel, 1, 1, 1));
            refused("setSignal with nothing in range", RefusalTest::busy, Bench.BOUNDS,
                    x -> x.setSignal(channel, -1, 100, 0));
        }
        for (int base : outside(0, 4095)) {
            refused("setSignal base " + base, RefusalTest::busy, Bench.ILLEGAL, x -> x.setSignal(0, base, 1, 1));
        }
        for (int slope : outside(-99, 99)) {
            refused("setSignal slope " + slope, RefusalTest::busy, Bench.ILLEGAL, x -> x.setSignal(0, 1, slope, 1));
        }
        for (int period : outside(1, 9999)) {
            refused("setSignal period " + period, RefusalTest::busy, Bench.ILLEGAL, x -> x.setSignal(0, 1, 1, period));
        }
    }

    private static void promise13SetSample() {
        for (int channel : outside(0, 7)) {
            refused("setSample channel " + channel, RefusalTest::busy, Bench.BOUNDS, x -> x.setSample(channel, 5));
            refused("setSample with nothing in range", RefusalTest::busy, Bench.BOUNDS, x -> x.setSample(channel, 0));
        }
        for (int cycles : outside(1, 99)) {
            refused("setSample cycles " + cycles, RefusalTest::busy, Bench.ILLEGAL, x -> x.setSample(0, cycles));
        }
    }

    private static void promise14SetWindow() {
        for (int window : noWindows()) {
            refused("setWindow " + window, RefusalTest::busy, Bench.BOUNDS, x -> x.setWindow(window, 1, 2));
            refused("setWindow with nothing in range", RefusalTest::busy, Bench.BOUNDS, x -> x.setWindow(window, 2, 1));
        }
        for (int low : outside(0, 65535)) {
            refused("setWindow low " + low, RefusalTest::busy, Bench.ILLEGAL, x -> x.setWindow(0, low, 65535));
        }
        for (int high : outside(77, 65535)) {
            refused("setWindow high " + high, RefusalTest::busy, Bench.ILLEGAL, x -> x.setWindow(0, 77, high));
        }
        refused("setWindow both too great", RefusalTest::busy, Bench.ILLEGAL, x -> x.setWindow(0, 65536, 65536));
        refused("setWindow both too small", RefusalTest::busy, Bench.ILLEGAL, x -> x.setWindow(0, -1, -1));
    }

    private static void promise15SetPace() {
        for (int pace : outside(0, 999)) {
            refused("setPace(" + pace + ")", RefusalTest::busy, Bench.ILLEGAL, x -> x.setPace(pace));
        }
    }

    private static void promise16And17StateAndSequence() {
        for (int what : outside(0, 10)) {
            refused("state(" + what + ")", RefusalTest::busy, Bench.ILLEGAL, x -> x.state(what));
        }
        for (int what : outside(0, 7)) {
            refused("regular sequence " + what, RefusalTest::busy, Bench.ILLEGAL, x -> x.sequence(false, what));
            refused("injected sequence " + what, RefusalTest::busy, Bench.ILLEGAL, x -> x.sequence(true, what));
        }
    }

    private static void promise18Entry() {
        for (int index : outside(0, 3)) {
            refused("regular entry " + index, RefusalTest::busy, Bench.BOUNDS, x -> x.entry(false, index));
        }
        for (int index : outside(0, 1)) {
            refused("injected entry " + index, RefusalTest::busy, Bench.BOUNDS, x -> x.entry(true, index));
        }
        refused("regular entry of a new object", RefusalTest::bare, Bench.BOUNDS, x -> x.entry(false, 0));
        refused("injected entry of a new object", RefusalTest::bare, Bench.BOUNDS, x -> x.entry(true, 0));
        Scene full = () -> Bench.made("regular 0 1 2 3 4 5 6 7;injected 4 5 6 7;");
        for (int index : outside(0, 7)) {
            refused("entry of a full sequence " + index, full, Bench.BOUNDS, x -> x.entry(false, index));
        }
        for (int index : outside(0, 3)) {
            refused("entry of a full sequence " + index, full, Bench.BOUNDS, x -> x.entry(true, index));
        }
        Bench.due("the last regular entry", full.make().entry(false, 7), 7);
        Bench.due("the last injected entry", full.make().entry(true, 3), 7);
    }

    private static void promise19To21Channel() {
        for (int channel : outside(0, 7)) {
            refused("channel " + channel, RefusalTest::busy, Bench.BOUNDS, x -> x.channel(channel, 0));
            refused("channel with nothing in range", RefusalTest::busy, Bench.BOUNDS, x -> x.channel(channel, 8));
            refused("sum of " + channel, RefusalTest::busy, Bench.BOUNDS, x -> x.sum(channel));
            refused("mean of " + channel, RefusalTest::busy, Bench.BOUNDS, x -> x.mean(channel));
        }
        for (int what : outside(0, 7)) {
            refused("channel what " + what, RefusalTest::busy, Bench.ILLEGAL, x -> x.channel(0, what));
        }
        refused("mean without results", RefusalTest::busy, Bench.ABSENT, x -> x.mean(7));
        refused("mean of a new object", RefusalTest::bare, Bench.ABSENT, x -> x.mean(0));
    }

    private static void promise22Trigger() {
        for (int trigger : outside(0, 3)) {
            refused("trigger " + trigger, RefusalTest::busy, Bench.BOUNDS, x -> x.trigger(trigger, 0));
            refused("trigger with nothing in range", RefusalTest::busy, Bench.BOUNDS, x -> x.trigger(trigger, 5));
        }
        for (int what : outside(0, 4)) {
            refused("trigger what " + what, RefusalTest::busy, Bench.ILLEGAL, x -> x.trigger(0, what));
        }
    }

    private static void promise23Window() {
        for (int window : noWindows()) {
            refused("window " + window, RefusalTest::busy, Bench.BOUNDS, x -> x.window(window, 0));
            refused("window with nothing in range", RefusalTest::busy, Bench.BOUNDS, x -> x.window(window, 9));
        }
        for (int what : outside(0, 8)) {
            refused("window what " + what, RefusalTest::busy, Bench.ILLEGAL, x -> x.window(0, what));
        }
    }

    private static void promise24Signal() {
        for (int channel : outside(0, 7)) {
            refused("signal " + channel, RefusalTest::busy, Bench.BOUNDS, x -> x.signal(channel, 0));
            refused("signal with nothing in range", RefusalTest::busy, Bench.BOUNDS, x -> x.signal(channel, -1));
        }
        refused("signal cycle -1", RefusalTest::busy, Bench.ILLEGAL, x -> x.signal(0, -1));
        refused("signal of the least cycle", RefusalTest::busy, Bench.ILLEGAL, x -> x.signal(0, LEAST_INT));
    }

    private static void promise25And26Results() {
        int queued = busy().state(9);
        int stored = busy().memorySize();
        Bench.due("the queue and the memory hold something", queued > 0 && stored > 0 ? 1 : 0, 1);
        for (int index : outside(0, queued - 1)) {
            refused("queued " + index, RefusalTest::busy, Bench.ABSENT, x -> x.queued(index, 0));
            refused("queued with nothing in range", RefusalTest::busy, Bench.ABSENT, x -> x.queued(index, 4));
        }
        for (int index : outside(0, stored - 1)) {
            refused("stored " + index, RefusalTest::busy, Bench.ABSENT, x -> x.stored(index, 0));
            refused("stored with nothing in range", RefusalTest::busy, Bench.ABSENT, x -> x.stored(index, 4));
        }
        for (int what : outside(0, 3)) {
            refused("queued what " + what, RefusalTest::busy, Bench.ILLEGAL, x -> x.queued(queued - 1, what));
            refused("stored what " + what, RefusalTest::busy, Bench.ILLEGAL, x -> x.stored(stored - 1, what));
            refused("queued of a new object " + what, RefusalTest::bare, Bench.ABSENT, x -> x.queued(0, what));
            refused("stored of a new object " + what, RefusalTest::bare, Bench.ABSENT, x -> x.stored(0, what));
        }
        refused("queued of an emptied queue", RefusalTest::drained, Bench.ABSENT, x -> x.queued(0, 0));
    }

    private static void promise28Injected() {
        for (int index : outside(0, 1)) {
            refused("injected " + index, RefusalTest::busy, Bench.BOUNDS, x -> x.injected(index, 0));
            refused("injected with nothing in range", RefusalTest::busy, Bench.BOUNDS, x -> x.injected(index, 4));
        }
        Scene early = () -> Bench.made("injected 1 2;trigger 0 injected;");
        for (int what : outside(0, 3)) {
            refused("injected what " + what, RefusalTest::busy, Bench.ILLEGAL, x -> x.injected(1, what));
            refused("injected without a result " + what, early, Bench.ILLEGAL, x -> x.injected(1, what));
        }
        for (int what = 0; what < 4; what++) {
            int asked = what;
            refused("injected without a result " + what, early, Bench.ABSENT, x -> x.injected(1, asked));
        }
        refused("injected without entries", RefusalTest::bare, Bench.BOUNDS, x -> x.injected(0, 0));
    }

    private static void promise29Latency() {
        refused("regular latency without results", RefusalTest::bare, Bench.ABSENT, x -> x.latency(false));
        refused("injected latency without results", RefusalTest::bare, Bench.ABSENT, x -> x.latency(true));
        Scene regularAlone = () -> ran("regular 0;trigger 0 regular every 9999;");
        Scene injectedAlone = () -> ran("injected 0;trigger 0 injected every 9999;");
        refused("injected latency without results", regularAlone, Bench.ABSENT, x -> x.latency(true));
        refused("regular latency without results", injectedAlone, Bench.ABSENT, x -> x.latency(false));
        Bench.due("regular latency", regularAlone.make().latency(false), 14);
        Bench.due("injected latency", injectedAlone.make().latency(true), 14);
    }

    private static ConverterScanner ran(String text) {
        ConverterScanner x = Bench.made(text);
        x.run(15);
        return x;
    }

    private static void promise30And31NextResultAndWhenRaised() {
        for (int most : outside(1, 5000)) {
            refused("nextResult(" + most + ")", RefusalTest::busy, Bench.ILLEGAL, x -> x.nextResult(most));
            // Window 0 is raised already, window 2 is not.
            refused("whenRaised(0, " + most + ")", RefusalTest::busy, Bench.ILLEGAL, x -> x.whenRaised(0, most));
            refused("whenRaised(2, " + most + ")", RefusalTest::busy, Bench.ILLEGAL, x -> x.whenRaised(2, most));
        }
        Bench.due("window 0 is raised", busy().window(0, 5), 1);
        Bench.due("window 2 is not", busy().window(2, 5), 0);
        for (int window : noWindows()) {
            refused("whenRaised of " + window, RefusalTest::busy, Bench.BOUNDS, x -> x.whenRaised(window, 1));
            refused("whenRaised with nothing in range", RefusalTest::busy, Bench.BOUNDS, x -> x.whenRaised(window, 0));
        }
    }

    private static void promise32And33Paces() {
        for (int pace : outside(0, 999)) {
            refused("overrunsWith pace " + pace, RefusalTest::busy, Bench.ILLEGAL, x -> x.overrunsWith(pace, 5));
        }
        for (int cycles : outside(1, 5000)) {
            refused("overrunsWith cycles " + cycles, RefusalTest::busy, Bench.ILLEGAL, x -> x.overrunsWith(5, cycles));
        }
        for (int cycles : outside(1, 500)) {
            refused("slowestPace(" + cycles + ")", RefusalTest::busy, Bench.ILLEGAL, x -> x.slowestPace(cycles));
        }
    }

    private static void promise35And36Slots() {
        for (int slot : outside(0, 1)) {
            refused("save(" + slot + ")", RefusalTest::busy, Bench.ILLEGAL, x -> x.save(slot));
            refused("restore(" + slot + ")", RefusalTest::busy, Bench.ILLEGAL, x -> x.restore(slot));
            // Nothing is saved there either, but the slot is listed first.
            refused("restore(" + slot + ")", RefusalTest::bare, Bench.ILLEGAL, x -> x.restore(slot));
        }
        for (int slot = 0; slot < 2; slot++) {
            int free = slot;
            refused("restore(" + slot + ")", RefusalTest::bare, Bench.STATE, x -> x.restore(free));
            refused("restore(" + slot + ")", RefusalTest::withoutSlots, Bench.STATE, x -> x.restore(free));
            Scene other = () -> {
                ConverterScanner x = withoutSlots();
                x.save(1 - free);
                return x;
            };
            refused("restore(" + slot + ") beside a saved one", other, Bench.STATE, x -> x.restore(free));
            Scene afterSetup = () -> {
                ConverterScanner x = busy();
                x.truncate(7);
                Bench.due("setup", x.setup(), 1);
                return x;
            };
            refused("restore(" + slot + ") after setup", afterSetup, Bench.STATE, x -> x.restore(free));
        }
        ConverterScanner x = busy();
        Bench.due("a text with an error", x.setup(), NONE);
        Bench.due("restore(0) after an error", x.restore(0), 833);
        Bench.due("restore(1) after an error", x.restore(1), 500);
    }
}
