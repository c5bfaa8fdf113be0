import java.util.ArrayList;
import java.util.List;
import java.util.Set;

/** Promises 4 and 7 to 36: many runs of calls beside the model; wild arguments, by which only due exceptions may be thrown. */
public final class FuzzTest {
    private static final int NONE = ConverterScanner.NONE;

    public static void main(String[] args) {
        for (int seed = 0; seed < 600; seed++) {
            compareWithModel(seed);
        }
        for (int seed = 0; seed < 60; seed++) {
            wildCalls(new Dice(seed));
        }
        Bench.end("FuzzTest");
    }

    // ---- beside the model

    private static void compareWithModel(int seed) {
        Dice dice = new Dice(seed);
        Model model = new Model();
        ConverterScanner x = Bench.made(tell(dice, model));
        int reach = dice.isLucky(3) ? 900 : 40;
        for (int call = 0; call < 60; call++) {
            act(dice, x, model, reach);
            compare("seed " + seed + " call " + call, x, model);
        }
        int most = dice.between(1, 300);
        predict("seed " + seed, x, model, dice, most);
    }

    /** Makes a setup in the model, and returns its text. */
    static String tell(Dice dice, Model model) {
        StringBuilder text = new StringBuilder();
        for (int i = 0; i < 8; i++) {
            text.append("channel ").append(i);
            model.sample[i] = dice.isLucky(4) ? dice.between(1, 99) : dice.between(1, 5);
            model.trim[i] = dice.between(-99, 99);
            model.base[i] = dice.isLucky(3) ? dice.between(0, 4095) : dice.between(0, 200);
            model.slope[i] = dice.between(-99, 99);
            model.period[i] = dice.isLucky(2) ? dice.between(1, 9999) : dice.between(1, 40);
            text.append(" sample ").append(model.sample[i]).append(" trim ").append(model.trim[i]);
            text.append(" base ").append(model.base[i]).append(" slope ").append(model.slope[i]);
            text.append(" period ").append(model.period[i]).append(";\n");
        }
        tellSequences(dice, model, text);
        for (int i = 0; i < 3; i++) {
            if (dice.isLucky(3)) {
                continue;
            }
            int low = dice.isLucky(3) ? 0 : dice.between(0, 500);
            model.windows[i] = new int[] {low, low + dice.between(0, 2000), dice.between(1, 4), dice.between(1, 255)};
            text.append("window ").append(i).append(" low ").append(low).append(" high ").append(model.windows[i][1]);
            text.append(" delay ").append(model.windows[i][2]).append(" on");
            for (int k = 0; k < 8; k++) {
                text.append((model.windows[i][3] >> k & 1) == 1 ? " " + k : "");
            }
            text.append(";");
        }
        for (int i = 0; i < 4; i++) {
            model.target[i] = dice.roll(3);
            if (model.target[i] == 0) {
                continue;
            }
            text.append("trigger ").append(i).append(model.target[i] == 1 ? " regular" : " injected");
            if (dice.isLucky(2)) {
                model.every[i] = dice.between(1, 300);
                model.from[i] = dice.isLucky(2) ? 0 : dice.between(0, 200);
                text.append(" every ").append(model.every[i]);
                text.append(model.from[i] > 0 ? " from " + model.from[i] : "");
            }
            text.append(";");
        }
        return text.toString();
    }

    private static void tellSequences(Dice dice, Model model, StringBuilder text) {
        for (int s = 0; s < 2; s++) {
            if (dice.isLucky(6)) {
                continue;
            }
            text.append(s == 0 ? "regular" : "injected");
            for (int i = dice.between(1, s == 0 ? 8 : 4); i > 0; i--) {
                int channel = dice.roll(8);
                model.entries.get(s).add(channel);
                text.append(' ').append(channel);
            }
            text.append(";");
        }
        if (dice.isLucky(2)) {
            model.group = dice.between(1, 8);
            text.append("group ").append(model.group).append(";");
        }
        model.isContinuous = dice.isLucky(2);
        model.isAuto = dice.isLucky(2);
        text.append(model.isContinuous ? "continuous;" : "").append(model.isAuto ? "auto;" : "");
        if (dice.isLucky(2)) {
            model.over = dice.between(0, dice.isLucky(3) ? 4 : 2);
            model.shift = dice.between(0, 4);
            model.isKeep = dice.isLucky(2);
            text.append("over ").append(model.over).append(" shift ").append(model.shift);
            text.append(model.isKeep ? " keep;" : ";");
        }
        if (dice.isLucky(2)) {
            model.capacity = dice.between(1, 16);
            model.isNewest = dice.isLucky(2);
            text.append("queue ").append(model.capacity).append(model.isNewest ? " newest;" : ";");
        }
        if (dice.isLucky(2)) {
            model.pace = dice.between(0, 60);
            text.append("pace ").append(model.pace).append(";");
        }
    }

    private static void act(Dice dice, ConverterScanner x, Model model, int reach) {
        switch (dice.roll(12)) {
            case 0:
            case 1: {
                int trigger = dice.roll(4);
                Bench.due("fire", x.fire(trigger), model.fire(trigger) ? 1 : 0);
                break;
            }
            case 2:
                if (dice.isLucky(3)) {
                    Bench.due("stop", x.stop(), model.stop() ? 1 : 0);
                }
                break;
            case 3:
                if (!model.queue.isEmpty()) {
                    Bench.due("take", x.take(), model.queue.remove(0)[3]);
                }
                break;
            case 4:
                set(dice, x, model);
                break;
            case 5: {
                int window = dice.roll(3);
                if (model.windows[window] != null) {
                    Bench.due("acknowledge", x.acknowledge(window), model.alarms[window] == null ? 0 : 1);
                    model.alarms[window] = null;
                    model.counts[window] = 0;
                }
                break;
            }
            default: {
                int cycles = dice.between(1, reach);
                int before = model.results.get(0).size() + model.results.get(1).size();
                for (int i = 0; i < cycles; i++) {
                    model.pass();
                }
                int after = model.results.get(0).size() + model.results.get(1).size();
                Bench.due("run", x.run(cycles), after - before);
            }
        }
    }

    private static void set(Dice dice, ConverterScanner x, Model model) {
        int channel = dice.roll(8);
        int window = dice.roll(3);
        switch (dice.roll(4)) {
            case 0:
                model.base[channel] = dice.between(0, 4095);
                model.slope[channel] = dice.between(-99, 99);
                model.period[channel] = dice.between(1, 500);
                Bench.due("setSignal", x.setSignal(channel, model.base[channel], model.slope[channel],
                        model.period[channel]), model.signal(channel, model.cycle));
                break;
            case 1: {
                int previous = model.sample[channel];
                model.sample[channel] = dice.between(1, 20);
                Bench.due("setSample", x.setSample(channel, model.sample[channel]), previous);
                break;
            }
            case 2:
                if (model.windows[window] != null) {
                    model.windows[window][0] = dice.between(0, 300);
                    model.windows[window][1] = model.windows[window][0] + dice.between(0, 300);
                    Bench.due("setWindow", x.setWindow(window, model.windows[window][0], model.windows[window][1]),
                            model.alarms[window] == null ? 0 : 1);
                }
                break;
            default: {
                int previous = model.pace;
                model.pace = dice.between(0, 60);
                Bench.due("setPace", x.setPace(model.pace), previous);
            }
        }
    }

    private static void compare(String name, ConverterScanner x, Model model) {
        int[] c = model.conversion;
        int[] state = {model.cycle, c == null ? 0 : c[0] + 1, c == null ? NONE : c[1],
            c == null ? NONE : c[2] + c[3] + 12 - model.cycle, model.finished, model.broken, model.overruns,
            model.transferred.size(), model.pace, model.queue.size(), model.capacity};
        for (int what = 0; what < state.length; what++) {
            Bench.due(name + " state " + what, x.state(what), state[what]);
        }
        for (int s = 0; s < 2; s++) {
            int[] sequence = {model.entries.get(s).size(), model.startedBy[s] >= 0 ? 1 : 0, model.position[s],
                model.startedBy[s], model.startedIn[s], model.results.get(s).size(), model.passes[s],
                model.parts.get(s).size()};
            for (int what = 0; what < sequence.length; what++) {
                Bench.due(name + " sequence " + s + " " + what, x.sequence(s == 1, what), sequence[what]);
            }
            if (!model.results.get(s).isEmpty()) {
                long sum = model.results.get(s).stream().mapToLong(result -> result[4]).sum();
                Bench.due(name + " latency " + s, x.latency(s == 1), (double) sum / model.results.get(s).size());
            }
            int length = 0;
            for (int channel : model.entries.get(s)) {
                length += (model.sample[channel] + 12) << model.over;
            }
            Bench.due(name + " passLength " + s, x.passLength(s == 1), length);
        }
        compareChannels(name, x, model);
        compareTriggersAndWindows(name, x, model);
        compareResults(name, x, model);
    }

    private static void compareChannels(String name, ConverterScanner x, Model model) {
        for (int i = 0; i < 8; i++) {
            int count = 0;
            int least = NONE;
            int greatest = NONE;
            long sum = 0;
            for (List<int[]> results : model.results) {
                for (int[] result : results) {
                    if (result[0] == i) {
                        least = count == 0 ? result[3] : Math.min(least, result[3]);
                        greatest = Math.max(greatest, result[3]);
                        sum += result[3];
                        count++;
                    }
                }
            }
            int[] channel = {model.sample[i], model.trim[i], model.base[i], model.slope[i], model.period[i], count,
                least, greatest};
            for (int what = 0; what < channel.length; what++) {
                Bench.due(name + " channel " + i + " " + what, x.channel(i, what), channel[what]);
            }
            Bench.due(name + " sum " + i, x.sum(i), sum);
            if (count > 0) {
                Bench.due(name + " mean " + i, x.mean(i), (double) sum / count);
            }
        }
    }

    private static void compareTriggersAndWindows(String name, ConverterScanner x, Model model) {
        for (int i = 0; i < 4; i++) {
            int[] trigger = {model.target[i], model.every[i], model.from[i], model.fired[i], model.missed[i]};
            for (int what = 0; what < trigger.length; what++) {
                Bench.due(name + " trigger " + i + " " + what, x.trigger(i, what), trigger[what]);
            }
        }
        for (int i = 0; i < 3; i++) {
            if (model.windows[i] == null) {
                continue;
            }
            int[] told = model.windows[i];
            int[] alarm = model.alarms[i];
            int[] window = {told[0], told[1], told[2], told[3], model.counts[i], alarm == null ? 0 : 1,
                alarm == null ? NONE : alarm[2], alarm == null ? NONE : alarm[0], alarm == null ? NONE : alarm[1]};
            for (int what = 0; what < window.length; what++) {
                Bench.due(name + " window " + i + " " + what, x.window(i, what), window[what]);
            }
        }
    }

    private static void compareResults(String name, ConverterScanner x, Model model) {
        List<int[]> memory = new ArrayList<>(model.transferred);
        memory = memory.subList(Math.max(0, memory.size() - 64), memory.size());
        Bench.due(name + " memorySize", x.memorySize(), memory.size());
        for (int what = 0; what < 4; what++) {
            for (int i = 0; i < model.queue.size(); i++) {
                Bench.due(name + " queued " + i, x.queued(i, what), model.queue.get(i)[what]);
            }
            for (int i = 0; i < memory.size(); i++) {
                Bench.due(name + " stored " + i, x.stored(i, what), memory.get(i)[what]);
            }
            for (int i = 0; i < 4; i++) {
                if (model.latest[i] != null) {
                    Bench.due(name + " injected " + i, x.injected(i, what), model.latest[i][what]);
                }
            }
        }
    }

    /** What is predicted has to come true, in a saved state each time, and only then the model goes there. */
    private static void predict(String name, ConverterScanner x, Model model, Dice dice, int most) {
        String before = Bench.everything(x);
        int next = x.nextResult(most);
        int[] raised = new int[3];
        for (int i = 0; i < 3; i++) {
            raised[i] = model.windows[i] == null ? NONE : x.whenRaised(i, most);
        }
        int slowest = x.slowestPace(most);
        int pace = dice.between(0, 999);
        int overruns = x.overrunsWith(pace, most);
        Bench.dueText(name + " what is told after predictions", Bench.everything(x), before);
        x.save(0);
        for (int tried = 60; tried > Math.max(slowest, 0); tried--) {
            Bench.due(name + " overruns with " + tried, overrunsOf(x, tried, most) > 0 ? 1 : 0, 1);
        }
        if (slowest != NONE) {
            Bench.due(name + " overruns with " + slowest, overrunsOf(x, slowest, most), 0);
        }
        Bench.due(name + " overrunsWith " + pace, overruns, overrunsOf(x, pace, most));
        x.restore(0);
        compareNext(name, model, next, raised, most);
    }

    private static int overrunsOf(ConverterScanner x, int pace, int cycles) {
        x.restore(0);
        x.setPace(pace);
        int before = x.state(6);
        x.run(cycles);
        return x.state(6) - before;
    }

    private static void compareNext(String name, Model model, int next, int[] raised, int most) {
        int before = model.results.get(0).size() + model.results.get(1).size();
        int dueNext = NONE;
        int[] dueRaised = {NONE, NONE, NONE};
        boolean[] wasRaised = {model.alarms[0] != null, model.alarms[1] != null, model.alarms[2] != null};
        for (int i = 0; i < most; i++) {
            model.pass();
            int after = model.results.get(0).size() + model.results.get(1).size();
            if (dueNext == NONE && after > before) {
                dueNext = model.cycle - 1;
            }
            for (int k = 0; k < 3; k++) {
                if (!wasRaised[k] && dueRaised[k] == NONE && model.alarms[k] != null) {
                    dueRaised[k] = model.cycle - 1;
                }
            }
        }
        Bench.due(name + " nextResult", next, dueNext);
        for (int k = 0; k < 3; k++) {
            Bench.due(name + " whenRaised " + k, raised[k], dueRaised[k]);
        }
    }

    // ---- wild calls

    private static int wildNumber(Dice dice) {
        switch (dice.roll(6)) {
            case 0: return Integer.MIN_VALUE + dice.roll(2);
            case 1: return Integer.MAX_VALUE - dice.roll(2);
            case 2: return dice.between(-2, 100);
            default: return dice.between(-2, 12);
        }
    }

    private static void wildCalls(Dice dice) {
        ConverterScanner x = dice.isLucky(2) ? new ConverterScanner() : Bench.made(tell(dice, new Model()));
        for (int call = 0; call < 3000; call++) {
            int which = dice.roll(35);
            int a = wildNumber(dice);
            int b = wildNumber(dice);
            int c = wildNumber(dice);
            int d = wildNumber(dice);
            Class<?> thrown = Bench.thrownBy(() -> wildCall(x, which, a, b, c, d));
            boolean isDue = thrown == null || Set.of(Bench.ILLEGAL, Bench.BOUNDS, Bench.STATE, Bench.ABSENT)
                    .contains(thrown);
            Bench.due("call " + which + " " + a + " " + b + " " + c + " " + d + " threw " + thrown, isDue ? 1 : 0, 1);
        }
    }

    private static double wildCall(ConverterScanner x, int which, int a, int b, int c, int d) {
        switch (which) {
            case 0: return x.append(a, b, c, d, a);
            case 1: return x.truncate(a);
            case 2: return x.setup();
            case 3: return x.errorCode();
            case 4: return x.errorPosition();
            case 5: return x.run(a);
            case 6: return x.fire(a);
            case 7: return x.stop();
            case 8: return x.take();
            case 9: return x.acknowledge(a);
            case 10: return x.setSignal(a, b, c, d);
            case 11: return x.setSample(a, b);
            case 12: return x.setWindow(a, b, c);
            case 13: return x.setPace(a);
            case 14: return x.state(a);
            case 15: return x.sequence(b > 4, a);
            case 16: return x.entry(b > 4, a);
            case 17: return x.channel(a, b);
            case 18: return x.sum(a);
            case 19: return x.mean(a);
            case 20: return x.trigger(a, b);
            case 21: return x.window(a, b);
            case 22: return x.signal(a, b);
            case 23: return x.queued(a, b);
            case 24: return x.stored(a, b);
            case 25: return x.memorySize();
            case 26: return x.injected(a, b);
            case 27: return x.latency(b > 4);
            case 28: return x.nextResult(a);
            case 29: return x.whenRaised(a, b);
            case 30: return x.overrunsWith(a, b);
            case 31: return x.slowestPace(a);
            case 32: return x.passLength(b > 4);
            case 33: return x.save(a);
            default: return x.restore(a);
        }
    }
}
