import java.util.NoSuchElementException;

/**
 * A scanning analog-to-digital converter: triggers start sequences of channels, conversions are added up to results,
 * windows look at them, and a queue and a memory hold them.
 */
public final class ConverterScanner {
    public static final int NONE = -1;

    private static final int CHANNELS = 8;
    private static final int REGULAR_ENTRIES = 8;
    private static final int INJECTED_ENTRIES = 4;
    private static final int TRIGGERS = 4;
    private static final int WINDOWS = 3;
    private static final int MOST_QUEUED = 16;
    private static final int FIRST_CAPACITY = 4;
    private static final int MEMORY_RESULTS = 64;
    private static final int CHANNEL_PROPERTIES = 5;
    private static final int FIRST_SAMPLE = 3;
    private static final int CYCLES_AFTER_SAMPLE = 12;
    private static final int GREATEST_SIGNAL = 4095;
    private static final int GREATEST_BOUND = 65535;

    private static final int NO_SEQUENCE = 0;
    private static final int REGULAR = 1;
    private static final int INJECTED = 2;

    private static final int RESULT_NUMBERS = 4;
    private static final int SLOTS = 2;
    private static final int BUFFER_BYTES = 900;
    private static final int BYTES_PER_APPEND = 20;
    private static final int MOST_CYCLES = 5000;
    private static final int MOST_PACE_CYCLES = 500;
    private static final int SLOWEST_PACE = 60;

    private static final int NO_ERROR = 0;
    private static final int SYNTAX = 1;
    private static final int RANGE = 2;
    private static final int REPEATED = 3;
    private static final int LIMIT = 4;

    private final Converter live = new Converter();
    // Predictions are worked out here, so that the live one stays as it is.
    private final Converter trial = new Converter();
    private final Converter[] slots = {new Converter(), new Converter()};
    private final boolean[] isSaved = new boolean[SLOTS];
    private final Parser parser = new Parser();

    public ConverterScanner() {
    }

    // ---- the setup text

    public int append(int a, int b, int c, int d, int e) throws IllegalStateException {
        Tokens buffer = parser.tokens;
        if (buffer.length > BUFFER_BYTES - BYTES_PER_APPEND) {
            throw new IllegalStateException("the buffer would exceed 900 bytes");
        }
        buffer.addBytes(a);
        buffer.addBytes(b);
        buffer.addBytes(c);
        buffer.addBytes(d);
        buffer.addBytes(e);
        return buffer.length;
    }

    public int truncate(int length) throws IllegalArgumentException {
        Tokens buffer = parser.tokens;
        if (length < 0 || length > buffer.length) {
            throw new IllegalArgumentException("the length is not 0 to the current length");
        }
        buffer.length = length;
        return length;
    }

    public int setup() {
        int statements = parser.parse();
        parser.tokens.length = 0;
        if (statements != NONE) {
            live.copyFrom(parser.draft);
            for (int i = 0; i < SLOTS; i++) {
                isSaved[i] = false;
            }
        }
        return statements;
    }

    public int errorCode() {
        return parser.errorCode;
    }

    public int errorPosition() {
        return parser.errorPosition;
    }

    // ---- running

    public int run(int cycles) throws IllegalArgumentException {
        requireCycles(cycles, MOST_CYCLES);
        int before = live.resultCount();
        for (int i = 0; i < cycles; i++) {
            live.passCycle();
        }
        return live.resultCount() - before;
    }

    public int fire(int trigger) throws IndexOutOfBoundsException {
        requireTrigger(trigger);
        return live.fireTrigger(trigger) ? 1 : 0;
    }

    public int stop() {
        return live.stopRegular() ? 1 : 0;
    }

    public int take() throws NoSuchElementException {
        if (live.queue.size == 0) {
            throw new NoSuchElementException("the queue is empty");
        }
        int value = live.queue.oldestNumber(3);
        live.queue.removeOldest();
        return value;
    }

    public int acknowledge(int window) throws IndexOutOfBoundsException {
        requireWindow(window);
        return live.windows[window].calmDown() ? 1 : 0;
    }

    public int setSignal(int channel, int base, int slope, int period)
            throws IndexOutOfBoundsException, IllegalArgumentException {
        requireChannel(channel);
        if (!Word.BASE.allows(base) || !Word.SLOPE.allows(slope) || !Word.PERIOD.allows(period)) {
            throw new IllegalArgumentException("the base, the slope or the period is out of range");
        }
        Channel changed = live.channels[channel];
        changed.base = base;
        changed.slope = slope;
        changed.period = period;
        return changed.signalAt(live.cycle);
    }

    public int setSample(int channel, int cycles) throws IndexOutOfBoundsException, IllegalArgumentException {
        requireChannel(channel);
        if (!Word.SAMPLE.allows(cycles)) {
            throw new IllegalArgumentException("the sample time is not 1 to 99");
        }
        int previous = live.channels[channel].sample;
        live.channels[channel].sample = cycles;
        return previous;
    }

    public int setWindow(int window, int low, int high) throws IndexOutOfBoundsException, IllegalArgumentException {
        requireWindow(window);
        if (low < 0 || high < low || high > GREATEST_BOUND) {
            throw new IllegalArgumentException("a bound is out of range");
        }
        Window changed = live.windows[window];
        changed.low = low;
        changed.high = high;
        return changed.isRaised ? 1 : 0;
    }

    public int setPace(int pace) throws IllegalArgumentException {
        requirePace(pace);
        int previous = live.pace;
        live.pace = pace;
        return previous;
    }

    // ---- state

    public int state(int what) throws IllegalArgumentException {
        requireWhat(what, 10);
        Conversion conversion = live.conversion;
        boolean isConverting = conversion.owner != NO_SEQUENCE;
        switch (what) {
            case 0: return live.cycle;
            case 1: return conversion.owner;
            case 2: return isConverting ? conversion.channel : NONE;
            case 3: return isConverting ? conversion.remaining : NONE;
            case 4: return conversion.finished;
            case 5: return conversion.brokenOff;
            case 6: return live.queue.overruns;
            case 7: return live.transferred;
            case 8: return live.pace;
            case 9: return live.queue.size;
            default: return live.queue.capacity;
        }
    }

    public int sequence(boolean isInjected, int what) throws IllegalArgumentException {
        requireWhat(what, 7);
        Sequence asked = live.sequenceOf(isInjected ? INJECTED : REGULAR);
        switch (what) {
            case 0: return asked.count;
            case 1: return asked.isBusy ? 1 : 0;
            case 2: return asked.position;
            case 3: return asked.trigger;
            case 4: return asked.startCycle;
            case 5: return asked.results;
            case 6: return asked.passes;
            default: return asked.conversions;
        }
    }

    public int entry(boolean isInjected, int index) throws IndexOutOfBoundsException {
        Sequence asked = live.sequenceOf(isInjected ? INJECTED : REGULAR);
        if (index < 0 || index >= asked.count) {
            throw new IndexOutOfBoundsException("there is no such entry");
        }
        return asked.entries[index];
    }

    public int channel(int channel, int what) throws IndexOutOfBoundsException, IllegalArgumentException {
        requireChannel(channel);
        requireWhat(what, 7);
        Channel asked = live.channels[channel];
        switch (what) {
            case 0: return asked.sample;
            case 1: return asked.trim;
            case 2: return asked.base;
            case 3: return asked.slope;
            case 4: return asked.period;
            case 5: return asked.results;
            case 6: return asked.least;
            default: return asked.greatest;
        }
    }

    public long sum(int channel) throws IndexOutOfBoundsException {
        requireChannel(channel);
        return live.channels[channel].total;
    }

    public double mean(int channel) throws IndexOutOfBoundsException, NoSuchElementException {
        requireChannel(channel);
        Channel asked = live.channels[channel];
        if (asked.results == 0) {
            throw new NoSuchElementException("there is no result of the channel");
        }
        return (double) asked.total / asked.results;
    }

    public int trigger(int trigger, int what) throws IndexOutOfBoundsException, IllegalArgumentException {
        requireTrigger(trigger);
        requireWhat(what, 4);
        Trigger asked = live.triggers[trigger];
        switch (what) {
            case 0: return asked.target;
            case 1: return asked.period;
            case 2: return asked.firstCycle;
            case 3: return asked.fired;
            default: return asked.missed;
        }
    }

    public int window(int window, int what) throws IndexOutOfBoundsException, IllegalArgumentException {
        requireWindow(window);
        requireWhat(what, 8);
        Window asked = live.windows[window];
        switch (what) {
            case 0: return asked.low;
            case 1: return asked.high;
            case 2: return asked.delay;
            case 3: return asked.channels;
            case 4: return asked.count;
            case 5: return asked.isRaised ? 1 : 0;
            case 6: return asked.raisedCycle;
            case 7: return asked.raisedChannel;
            default: return asked.raisedTrigger;
        }
    }

    public int signal(int channel, int cycle) throws IndexOutOfBoundsException, IllegalArgumentException {
        requireChannel(channel);
        if (cycle < 0) {
            throw new IllegalArgumentException("the cycle is negative");
        }
        return live.channels[channel].signalAt(cycle);
    }

    // ---- results

    public int queued(int index, int what) throws NoSuchElementException, IllegalArgumentException {
        return numberOf(live.queue, index, what);
    }

    public int stored(int index, int what) throws NoSuchElementException, IllegalArgumentException {
        return numberOf(live.memory, index, what);
    }

    private static int numberOf(Results results, int index, int what) {
        if (index < 0 || index >= results.size) {
            throw new NoSuchElementException("there is no such result");
        }
        requireWhat(what, RESULT_NUMBERS - 1);
        return results.number(results.oldest + index, what);
    }

    public int memorySize() {
        return live.memory.size;
    }

    public int injected(int index, int what)
            throws IndexOutOfBoundsException, IllegalArgumentException, NoSuchElementException {
        if (index < 0 || index >= live.injected.count) {
            throw new IndexOutOfBoundsException("there is no such entry");
        }
        requireWhat(what, RESULT_NUMBERS - 1);
        // Passes of the injected sequence are never broken off, so its entries get their first results in their order.
        if (live.injected.results <= index) {
            throw new NoSuchElementException("the entry has no result yet");
        }
        return live.latest.number(index, what);
    }

    public double latency(boolean isInjected) throws NoSuchElementException {
        Sequence asked = live.sequenceOf(isInjected ? INJECTED : REGULAR);
        if (asked.results == 0) {
            throw new NoSuchElementException("the sequence has no results so far");
        }
        return (double) asked.latencySum / asked.results;
    }

    // ---- predictions

    public int nextResult(int most) throws IllegalArgumentException {
        requireCycles(most, MOST_CYCLES);
        trial.copyFrom(live);
        int before = live.resultCount();
        for (int i = 0; i < most; i++) {
            int cycle = trial.cycle;
            trial.passCycle();
            if (trial.resultCount() != before) {
                return cycle;
            }
        }
        return NONE;
    }

    public int whenRaised(int window, int most) throws IndexOutOfBoundsException, IllegalArgumentException {
        requireWindow(window);
        requireCycles(most, MOST_CYCLES);
        if (live.windows[window].isRaised) {
            return NONE;
        }
        trial.copyFrom(live);
        Window watched = trial.windows[window];
        for (int i = 0; i < most && !watched.isRaised; i++) {
            trial.passCycle();
        }
        return watched.raisedCycle;
    }

    public int overrunsWith(int pace, int cycles) throws IllegalArgumentException {
        requirePace(pace);
        requireCycles(cycles, MOST_CYCLES);
        return countOverruns(pace, cycles, MOST_CYCLES);
    }

    public int slowestPace(int cycles) throws IllegalArgumentException {
        requireCycles(cycles, MOST_PACE_CYCLES);
        for (int pace = SLOWEST_PACE; pace >= 1; pace--) {
            if (countOverruns(pace, cycles, 1) == 0) {
                return pace;
            }
        }
        return NONE;
    }

    /** Lets cycles pass on trial, until there are as many overruns as are of interest. */
    private int countOverruns(int pace, int cycles, int enough) {
        trial.copyFrom(live);
        trial.pace = pace;
        int overruns = 0;
        for (int i = 0; i < cycles && overruns < enough; i++) {
            trial.passCycle();
            overruns = trial.queue.overruns - live.queue.overruns;
        }
        return overruns;
    }

    public int passLength(boolean isInjected) {
        Sequence asked = live.sequenceOf(isInjected ? INJECTED : REGULAR);
        int cycles = 0;
        for (int i = 0; i < asked.count; i++) {
            cycles += live.channels[asked.entries[i]].conversionLength() << live.oversampling;
        }
        return cycles;
    }

    // ---- saved states

    public int save(int slot) throws IllegalArgumentException {
        requireSlot(slot);
        slots[slot].copyFrom(live);
        isSaved[slot] = true;
        return live.cycle;
    }

    public int restore(int slot) throws IllegalArgumentException, IllegalStateException {
        requireSlot(slot);
        if (!isSaved[slot]) {
            throw new IllegalStateException("nothing is saved in the slot");
        }
        live.copyFrom(slots[slot]);
        return live.cycle;
    }

    // ---- arguments

    private static void requireChannel(int channel) {
        if (!Word.CHANNEL.allows(channel)) {
            throw new IndexOutOfBoundsException("the channel is not 0 to 7");
        }
    }

    private static void requireTrigger(int trigger) {
        if (!Word.TRIGGER.allows(trigger)) {
            throw new IndexOutOfBoundsException("the trigger is not 0 to 3");
        }
    }

    private void requireWindow(int window) {
        if (!Word.WINDOW.allows(window) || !live.windows[window].isTold) {
            throw new IndexOutOfBoundsException("there is no such window");
        }
    }

    private static void requireWhat(int what, int most) {
        if (what < 0 || what > most) {
            throw new IllegalArgumentException("there is no such number to ask for");
        }
    }

    private static void requireCycles(int cycles, int most) {
        if (cycles < 1 || cycles > most) {
            throw new IllegalArgumentException("the number of cycles is out of range");
        }
    }

    private static void requirePace(int pace) {
        if (!Word.PACE.allows(pace)) {
            throw new IllegalArgumentException("the pace is not 0 to 999");
        }
    }

    private static void requireSlot(int slot) {
        if (slot < 0 || slot >= SLOTS) {
            throw new IllegalArgumentException("the slot is not 0 or 1");
        }
    }

    /** Everything that a setup text tells and that calls change: one value to copy, save and try things on. */
    private static final class Converter {
        final Channel[] channels = new Channel[CHANNELS];
        final Sequence regular = new Sequence(REGULAR_ENTRIES);
        final Sequence injected = new Sequence(INJECTED_ENTRIES);
        final Trigger[] triggers = new Trigger[TRIGGERS];
        final Window[] windows = new Window[WINDOWS];
        final Conversion conversion = new Conversion();
        final Results queue = new Results(MOST_QUEUED);
        final Results memory = new Results(MEMORY_RESULTS);
        final Results latest = new Results(INJECTED_ENTRIES);
        boolean isContinuous;
        boolean isAuto;
        boolean isKeeping;
        int oversampling;
        int shift;
        int pace;
        int cycle;
        int transferred;

        Converter() {
            for (int i = 0; i < CHANNELS; i++) {
                channels[i] = new Channel();
            }
            for (int i = 0; i < TRIGGERS; i++) {
                triggers[i] = new Trigger();
            }
            for (int i = 0; i < WINDOWS; i++) {
                windows[i] = new Window();
            }
            queue.capacity = FIRST_CAPACITY;
            memory.isNewest = true;
        }

        void copyFrom(Converter other) {
            for (int i = 0; i < CHANNELS; i++) {
                channels[i].copyFrom(other.channels[i]);
            }
            for (int i = 0; i < TRIGGERS; i++) {
                triggers[i].copyFrom(other.triggers[i]);
            }
            for (int i = 0; i < WINDOWS; i++) {
                windows[i].copyFrom(other.windows[i]);
            }
            regular.copyFrom(other.regular);
            injected.copyFrom(other.injected);
            conversion.copyFrom(other.conversion);
            queue.copyFrom(other.queue);
            memory.copyFrom(other.memory);
            latest.copyFrom(other.latest);
            isContinuous = other.isContinuous;
            isAuto = other.isAuto;
            isKeeping = other.isKeeping;
            oversampling = other.oversampling;
            shift = other.shift;
            pace = other.pace;
            cycle = other.cycle;
            transferred = other.transferred;
        }

        Sequence sequenceOf(int which) {
            return which == INJECTED ? injected : regular;
        }

        int resultCount() {
            return regular.results + injected.results;
        }

        void passCycle() {
            for (int i = 0; i < TRIGGERS; i++) {
                if (triggers[i].isDue(cycle)) {
                    fireTrigger(i);
                }
            }
            if (conversion.owner == NO_SEQUENCE) {
                startConversion();
            }
            if (conversion.owner != NO_SEQUENCE) {
                advanceConversion();
            }
            if (pace > 0 && (cycle + 1) % pace == 0) {
                transferOldest();
            }
            cycle++;
        }

        /** Tells whether the trigger started its sequence. */
        boolean fireTrigger(int number) {
            Trigger trigger = triggers[number];
            trigger.fired++;
            Sequence target = sequenceOf(trigger.target);
            if (trigger.target == NO_SEQUENCE || !target.isReady()) {
                trigger.missed++;
                return false;
            }
            startSequence(trigger.target, number);
            return true;
        }

        private void startSequence(int which, int trigger) {
            sequenceOf(which).becomeBusy(trigger, cycle);
            if (which == INJECTED) {
                breakOffRegular(isKeeping);
            }
        }

        private void breakOffRegular(boolean doEarlierOnesCount) {
            if (conversion.owner != REGULAR) {
                return;
            }
            conversion.owner = NO_SEQUENCE;
            conversion.brokenOff++;
            if (!doEarlierOnesCount) {
                regular.forgetConversions();
            }
        }

        /** Tells whether the regular sequence was busy. */
        boolean stopRegular() {
            boolean wasBusy = regular.isBusy;
            breakOffRegular(false);
            regular.forgetConversions();
            regular.becomeIdle();
            regular.position = 0;
            return wasBusy;
        }

        private void startConversion() {
            if (injected.isBusy) {
                conversion.owner = INJECTED;
            } else if (regular.isBusy) {
                conversion.owner = REGULAR;
            } else {
                return;
            }
            conversion.channel = sequenceOf(conversion.owner).nextChannel();
            conversion.remaining = channels[conversion.channel].conversionLength();
        }

        private void advanceConversion() {
            conversion.remaining--;
            if (conversion.remaining == CYCLES_AFTER_SAMPLE) {
                conversion.measured = channels[conversion.channel].signalAt(cycle);
            }
            if (conversion.remaining > 0) {
                return;
            }
            int which = conversion.owner;
            Sequence sequence = sequenceOf(which);
            conversion.owner = NO_SEQUENCE;
            conversion.finished++;
            sequence.conversions++;
            sequence.total += conversion.measured;
            if (sequence.conversions >= 1 << oversampling) {
                finishResult(which, sequence);
                if (sequence.position >= sequence.passEnd) {
                    endPass(which);
                }
            }
        }

        private void finishResult(int which, Sequence sequence) {
            int number = conversion.channel;
            Channel channel = channels[number];
            int value = (sequence.total >> shift) - channel.trim;
            value = value < 0 ? 0 : value;
            sequence.forgetConversions();
            for (int i = 0; i < WINDOWS; i++) {
                windows[i].look(number, sequence.trigger, cycle, value);
            }
            channel.addResult(value);
            sequence.results++;
            sequence.latencySum += cycle - sequence.startCycle;
            if (which == INJECTED) {
                latest.put(sequence.position, number, sequence.trigger, cycle, value);
            } else {
                queue.add(number, sequence.trigger, cycle, value);
            }
            sequence.position++;
        }

        private void endPass(int which) {
            sequenceOf(which).passes++;
            if (which == INJECTED) {
                injected.position = 0;
                injected.becomeIdle();
                return;
            }
            if (regular.position >= regular.count) {
                regular.position = 0;
            }
            if (isAuto && injected.isReady()) {
                startSequence(INJECTED, regular.trigger);
            }
            if (isContinuous) {
                regular.beginPass();
            } else {
                regular.becomeIdle();
            }
        }

        private void transferOldest() {
            if (queue.size == 0) {
                return;
            }
            memory.add(queue.oldestNumber(0), queue.oldestNumber(1), queue.oldestNumber(2), queue.oldestNumber(3));
            queue.removeOldest();
            transferred++;
        }
    }

    /** What is told of a channel, and what its results add up to. */
    private static final class Channel {
        int sample = FIRST_SAMPLE;
        int trim;
        int base;
        int slope;
        int period = 1;
        int results;
        int least = NONE;
        int greatest = NONE;
        long total;

        void copyFrom(Channel other) {
            sample = other.sample;
            trim = other.trim;
            base = other.base;
            slope = other.slope;
            period = other.period;
            results = other.results;
            least = other.least;
            greatest = other.greatest;
            total = other.total;
        }

        int signalAt(int cycle) {
            int phase = period > 0 ? cycle % period : 0;
            int value = base + slope * phase;
            if (value < 0) {
                return 0;
            }
            return value > GREATEST_SIGNAL ? GREATEST_SIGNAL : value;
        }

        int conversionLength() {
            return sample + CYCLES_AFTER_SAMPLE;
        }

        void addResult(int value) {
            if (results == 0 || value < least) {
                least = value;
            }
            if (results == 0 || value > greatest) {
                greatest = value;
            }
            results++;
            total += value;
        }
    }

    /** The entries of a sequence, its present pass, and the conversions of its unfinished result. */
    private static final class Sequence {
        final int[] entries;
        int count;
        // 0 is no group length
        int group;
        boolean isBusy;
        int position;
        int passEnd;
        int trigger = NONE;
        int startCycle = NONE;
        int results;
        int passes;
        int conversions;
        int total;
        long latencySum;

        Sequence(int most) {
            entries = new int[most];
        }

        void copyFrom(Sequence other) {
            System.arraycopy(other.entries, 0, entries, 0, entries.length);
            count = other.count;
            group = other.group;
            isBusy = other.isBusy;
            position = other.position;
            passEnd = other.passEnd;
            trigger = other.trigger;
            startCycle = other.startCycle;
            results = other.results;
            passes = other.passes;
            conversions = other.conversions;
            total = other.total;
            latencySum = other.latencySum;
        }

        boolean isReady() {
            return count > 0 && !isBusy;
        }

        void becomeBusy(int trigger, int cycle) {
            isBusy = true;
            this.trigger = trigger;
            startCycle = cycle;
            beginPass();
        }

        void beginPass() {
            boolean isShort = group > 0 && position + group < count;
            passEnd = isShort ? position + group : count;
        }

        void becomeIdle() {
            isBusy = false;
            trigger = NONE;
            startCycle = NONE;
        }

        int nextChannel() {
            return position >= 0 && position < entries.length ? entries[position] : 0;
        }

        void forgetConversions() {
            conversions = 0;
            total = 0;
        }
    }

    /** A trigger with its timer; a period of 0 is no timer. */
    private static final class Trigger {
        int target = NO_SEQUENCE;
        int period;
        int firstCycle;
        int fired;
        int missed;

        void copyFrom(Trigger other) {
            target = other.target;
            period = other.period;
            firstCycle = other.firstCycle;
            fired = other.fired;
            missed = other.missed;
        }

        boolean isDue(int cycle) {
            return period > 0 && cycle >= firstCycle && (cycle - firstCycle) % period == 0;
        }
    }

    /** A window with its alarm. */
    private static final class Window {
        boolean isTold;
        int low;
        int high;
        int delay;
        int channels;
        int count;
        boolean isRaised;
        int raisedCycle = NONE;
        int raisedChannel = NONE;
        int raisedTrigger = NONE;

        void copyFrom(Window other) {
            isTold = other.isTold;
            low = other.low;
            high = other.high;
            delay = other.delay;
            channels = other.channels;
            count = other.count;
            isRaised = other.isRaised;
            raisedCycle = other.raisedCycle;
            raisedChannel = other.raisedChannel;
            raisedTrigger = other.raisedTrigger;
        }

        void look(int channel, int trigger, int cycle, int value) {
            // A window that was not told has no channels.
            if ((channels >> channel & 1) == 0) {
                return;
            }
            count = value < low || value > high ? count + 1 : 0;
            if (count >= delay && !isRaised) {
                isRaised = true;
                raisedCycle = cycle;
                raisedChannel = channel;
                raisedTrigger = trigger;
            }
        }

        /** Tells whether the window was raised. */
        boolean calmDown() {
            boolean wasRaised = isRaised;
            isRaised = false;
            count = 0;
            raisedCycle = NONE;
            raisedChannel = NONE;
            raisedTrigger = NONE;
            return wasRaised;
        }
    }

    /** The conversion in progress, and how many there were. */
    private static final class Conversion {
        int owner = NO_SEQUENCE;
        int channel;
        int remaining;
        int measured;
        int finished;
        int brokenOff;

        void copyFrom(Conversion other) {
            owner = other.owner;
            channel = other.channel;
            remaining = other.remaining;
            measured = other.measured;
            finished = other.finished;
            brokenOff = other.brokenOff;
        }
    }

    /** Results in a ring of rows: channel, trigger, cycle and value. */
    private static final class Results {
        final int[] cells;
        // The number of rows is a power of two, so that a mask keeps each row inside the ring.
        final int rowMask;
        int capacity;
        boolean isNewest;
        int oldest;
        int size;
        int overruns;

        Results(int rows) {
            cells = new int[rows * RESULT_NUMBERS];
            rowMask = rows - 1;
            capacity = rows;
        }

        void copyFrom(Results other) {
            System.arraycopy(other.cells, 0, cells, 0, cells.length);
            capacity = other.capacity;
            isNewest = other.isNewest;
            oldest = other.oldest;
            size = other.size;
            overruns = other.overruns;
        }

        void add(int channel, int trigger, int cycle, int value) {
            if (size >= capacity) {
                overruns++;
                if (!isNewest) {
                    return;
                }
                removeOldest();
            }
            put(oldest + size, channel, trigger, cycle, value);
            size++;
        }

        void put(int row, int channel, int trigger, int cycle, int value) {
            int start = (row & rowMask) * RESULT_NUMBERS;
            cells[start] = channel;
            cells[start + 1] = trigger;
            cells[start + 2] = cycle;
            cells[start + 3] = value;
        }

        int number(int row, int what) {
            return cells[(row & rowMask) * RESULT_NUMBERS + what];
        }

        int oldestNumber(int what) {
            return number(oldest, what);
        }

        void removeOldest() {
            oldest = oldest + 1 & rowMask;
            size--;
        }
    }

    /** Reads a setup text into a converter, up to its first error. */
    private static final class Parser {
        final Tokens tokens = new Tokens();
        // A text may have an error, so what it tells stands here until its end is reached.
        final Converter draft = new Converter();
        // It is never changed: what is not told is as here.
        private final Converter first = new Converter();
        private int number;
        private int toldWords;
        private int toldChannels;
        private int toldWindows;
        private int toldTriggers;
        int errorCode = NO_ERROR;
        int errorPosition = NONE;

        /** Returns the number of statements, or NONE with an error. */
        int parse() {
            errorCode = NO_ERROR;
            errorPosition = NONE;
            toldWords = 0;
            toldChannels = 0;
            toldWindows = 0;
            toldTriggers = 0;
            draft.copyFrom(first);
            tokens.begin();
            int statements = 0;
            for (int i = 0; i < tokens.length && tokens.kind != Tokens.END; i++) {
                if (!readStatement() || !takeSign(';')) {
                    return NONE;
                }
                statements++;
            }
            return statements;
        }

        private boolean readStatement() {
            switch (tokens.word) {
                case CHANNEL: return readChannel();
                case WINDOW: return readWindow();
                case TRIGGER: return readTrigger();
                case REGULAR: return takeFirstWord() && readEntries(draft.regular);
                case INJECTED: return takeFirstWord() && readEntries(draft.injected);
                case GROUP: return takeFirstWord() && readGroup();
                case CONTINUOUS: draft.isContinuous = true; return takeFirstWord();
                case AUTO: draft.isAuto = true; return takeFirstWord();
                case OVER: return takeFirstWord() && readOver();
                case QUEUE: return takeFirstWord() && readQueue();
                case PACE: return takeFirstWord() && readPace();
                default: return fail(SYNTAX);
            }
        }

        private boolean readChannel() {
            tokens.next();
            if (!takeNumber(Word.CHANNEL, toldChannels)) {
                return false;
            }
            toldChannels |= 1 << number;
            Channel channel = draft.channels[number];
            int toldProperties = 0;
            for (int i = 0; i <= CHANNEL_PROPERTIES && tokens.word.isProperty(); i++) {
                Word property = tokens.word;
                if ((toldProperties & property.bit) != 0) {
                    return fail(REPEATED);
                }
                toldProperties |= property.bit;
                tokens.next();
                boolean isNegative = property.least < 0 && skipSign('-');
                if (!takeNumber(property, 0)) {
                    return false;
                }
                setProperty(channel, property, isNegative ? -number : number);
            }
            return true;
        }

        private static void setProperty(Channel channel, Word property, int value) {
            switch (property) {
                case SAMPLE: channel.sample = value; break;
                case TRIM: channel.trim = value; break;
                case BASE: channel.base = value; break;
                case SLOPE: channel.slope = value; break;
                default: channel.period = value; break;
            }
        }

        private boolean readEntries(Sequence sequence) {
            int most = sequence.entries.length;
            for (int i = 0; i < most; i++) {
                if (i > 0 && tokens.kind != Tokens.NUMBER) {
                    return true;
                }
                if (!takeNumber(Word.CHANNEL, 0)) {
                    return false;
                }
                sequence.entries[i] = number;
                sequence.count = i + 1;
            }
            if (tokens.kind != Tokens.NUMBER) {
                return true;
            }
            return fail(Word.CHANNEL.allows(tokens.number) ? LIMIT : RANGE);
        }

        private boolean readGroup() {
            if (!takeNumber(Word.GROUP, 0)) {
                return false;
            }
            draft.regular.group = number;
            return true;
        }

        private boolean readOver() {
            if (!takeNumber(Word.OVER, 0)) {
                return false;
            }
            draft.oversampling = number;
            if (!takeWord(Word.SHIFT) || !takeNumber(Word.SHIFT, 0)) {
                return false;
            }
            draft.shift = number;
            draft.isKeeping = skipWord(Word.KEEP);
            return true;
        }

        private boolean readWindow() {
            tokens.next();
            if (!takeNumber(Word.WINDOW, toldWindows)) {
                return false;
            }
            toldWindows |= 1 << number;
            Window window = draft.windows[number];
            window.isTold = true;
            if (!takeWord(Word.LOW) || !takeNumber(Word.LOW, 0)) {
                return false;
            }
            window.low = number;
            if (!takeWord(Word.HIGH) || !takeHighBound(window.low)) {
                return false;
            }
            window.high = number;
            if (!takeWord(Word.DELAY) || !takeNumber(Word.DELAY, 0)) {
                return false;
            }
            window.delay = number;
            return takeWord(Word.ON) && readWindowChannels(window);
        }

        private boolean takeHighBound(int low) {
            if (tokens.kind == Tokens.NUMBER && tokens.number < low) {
                return fail(RANGE);
            }
            return takeNumber(Word.HIGH, 0);
        }

        private boolean readWindowChannels(Window window) {
            // One channel more than there are must be a repeated one.
            for (int i = 0; i <= CHANNELS; i++) {
                if (i > 0 && tokens.kind != Tokens.NUMBER) {
                    return true;
                }
                if (!takeNumber(Word.CHANNEL, window.channels)) {
                    return false;
                }
                window.channels |= 1 << number;
            }
            return true;
        }

        private boolean readTrigger() {
            tokens.next();
            if (!takeNumber(Word.TRIGGER, toldTriggers)) {
                return false;
            }
            toldTriggers |= 1 << number;
            Trigger trigger = draft.triggers[number];
            if (skipWord(Word.INJECTED)) {
                trigger.target = INJECTED;
            } else if (takeWord(Word.REGULAR)) {
                trigger.target = REGULAR;
            } else {
                return false;
            }
            if (!skipWord(Word.EVERY)) {
                return true;
            }
            if (!takeNumber(Word.EVERY, 0)) {
                return false;
            }
            trigger.period = number;
            if (!skipWord(Word.FROM)) {
                return true;
            }
            if (!takeNumber(Word.FROM, 0)) {
                return false;
            }
            trigger.firstCycle = number;
            return true;
        }

        private boolean readQueue() {
            if (!takeNumber(Word.QUEUE, 0)) {
                return false;
            }
            draft.queue.capacity = number;
            draft.queue.isNewest = skipWord(Word.NEWEST);
            return true;
        }

        private boolean readPace() {
            if (!takeNumber(Word.PACE, 0)) {
                return false;
            }
            draft.pace = number;
            return true;
        }

        /** Takes the first word of a statement of which there is but one. */
        private boolean takeFirstWord() {
            if ((toldWords & tokens.word.bit) != 0) {
                return fail(REPEATED);
            }
            toldWords |= tokens.word.bit;
            tokens.next();
            return true;
        }

        private boolean takeWord(Word word) {
            if (tokens.word != word) {
                return fail(SYNTAX);
            }
            tokens.next();
            return true;
        }

        private boolean skipWord(Word word) {
            if (tokens.word != word) {
                return false;
            }
            tokens.next();
            return true;
        }

        private boolean takeSign(int sign) {
            return skipSign(sign) || fail(SYNTAX);
        }

        private boolean skipSign(int sign) {
            if (tokens.kind != Tokens.SIGN || tokens.number != sign) {
                return false;
            }
            tokens.next();
            return true;
        }

        /** Takes a number in the range of its word; bit k of taken forbids the number k. */
        private boolean takeNumber(Word word, int taken) {
            if (tokens.kind != Tokens.NUMBER) {
                return fail(SYNTAX);
            }
            if (!word.allows(tokens.number)) {
                return fail(RANGE);
            }
            if ((taken >> tokens.number & 1) != 0) {
                return fail(REPEATED);
            }
            number = tokens.number;
            tokens.next();
            return true;
        }

        private boolean fail(int code) {
            errorCode = code;
            errorPosition = tokens.start;
            return false;
        }
    }

    /** The input buffer and the tokens of its text; the present token is the first that is not taken yet. */
    private static final class Tokens {
        static final int END = 0;
        static final int WORD = 1;
        static final int NUMBER = 2;
        static final int SIGN = 3;
        static final int INVALID = 4;

        private static final int MOST_LETTERS = 10;
        private static final int MOST_DIGITS = 5;

        private final byte[] text = new byte[BUFFER_BYTES];
        int length;
        private int end;
        private long letters;
        int start;
        int kind = END;
        // The value of a number, or the byte of a sign.
        int number;
        Word word = Word.OTHER;

        /** Adds the four bytes of a number to the buffer, its highest byte first. */
        void addBytes(int number) {
            for (int shift = 24; shift >= 0 && length < text.length; shift -= 8) {
                text[length] = (byte) (number >> shift);
                length++;
            }
        }

        void begin() {
            end = 0;
            next();
        }

        void next() {
            int i = end;
            while (i < length && (text[i] == ' ' || text[i] == '\n')) {
                i++;
            }
            start = i;
            word = Word.OTHER;
            if (i >= length) {
                end = i;
                kind = END;
                return;
            }
            number = text[i];
            if (number >= 'a' && number <= 'z') {
                readRun(WORD, 'a', 'z', MOST_LETTERS);
                word = kind == WORD ? Word.of(letters) : Word.OTHER;
            } else if (number >= '0' && number <= '9') {
                readRun(NUMBER, '0', '9', MOST_DIGITS);
            } else {
                kind = SIGN;
                end = i + 1;
            }
        }

        private void readRun(int kindOfRun, char lowest, char highest, int most) {
            letters = 0;
            number = 0;
            int i = start;
            for (; i < length && text[i] >= lowest && text[i] <= highest; i++) {
                letters = Word.LETTER_STEPS * letters + (text[i] - lowest + 1);
                number = 10 * number + (text[i] - lowest);
            }
            end = i;
            kind = i - start > most ? INVALID : kindOfRun;
        }
    }

    /** The words of the setup text, with the range of the number that follows one (of a high bound without its low). */
    private enum Word {
        CHANNEL(0, "channel", 0, 7),
        REGULAR(1, "regular", 0, 7),
        INJECTED(2, "injected", 0, 7),
        GROUP(3, "group", 1, 8),
        CONTINUOUS(4, "continuous", 0, 0),
        AUTO(5, "auto", 0, 0),
        OVER(6, "over", 0, 4),
        WINDOW(7, "window", 0, 2),
        TRIGGER(8, "trigger", 0, 3),
        QUEUE(9, "queue", 1, 16),
        PACE(10, "pace", 0, 999),
        SAMPLE(11, "sample", 1, 99),
        TRIM(12, "trim", -99, 99),
        BASE(13, "base", 0, 4095),
        SLOPE(14, "slope", -99, 99),
        PERIOD(15, "period", 1, 9999),
        SHIFT(16, "shift", 0, 4),
        KEEP(17, "keep", 0, 0),
        LOW(18, "low", 0, 65535),
        HIGH(19, "high", 0, 65535),
        DELAY(20, "delay", 1, 15),
        ON(21, "on", 0, 7),
        EVERY(22, "every", 1, 9999),
        FROM(23, "from", 0, 9999),
        NEWEST(24, "newest", 0, 0),
        OTHER(25, "", 0, 0);

        private static final Word[] ALL = values();
        // Each word of up to 10 letters is a number of its own, so that words are compared without making texts.
        static final int LETTER_STEPS = 32;
        final int bit;
        final long letters;
        final int least;
        final int most;

        Word(int index, String text, int least, int most) {
            long packed = 0;
            for (int i = 0; i < text.length(); i++) {
                packed = LETTER_STEPS * packed + (text.charAt(i) - 'a' + 1);
            }
            this.bit = 1 << index;
            this.letters = packed;
            this.least = least;
            this.most = most;
        }

        static Word of(long letters) {
            for (Word word : ALL) {
                if (word.letters == letters) {
                    return word;
                }
            }
            return OTHER;
        }

        boolean allows(int value) {
            return value >= least && value <= most;
        }

        boolean isProperty() {
            return this == SAMPLE || this == TRIM || this == BASE || this == SLOPE || this == PERIOD;
        }
    }
}
