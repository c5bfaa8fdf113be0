import java.util.ArrayList;
import java.util.List;

/** The document's sections 1 to 6 once more, in the plainest form, for comparison: lists, no copies, no rings. */
final class Model {
    final int[] sample = {3, 3, 3, 3, 3, 3, 3, 3};
    final int[] trim = new int[8];
    final int[] base = new int[8];
    final int[] slope = new int[8];
    final int[] period = {1, 1, 1, 1, 1, 1, 1, 1};
    final List<List<Integer>> entries = List.of(new ArrayList<>(), new ArrayList<>());
    int group = 99;
    boolean isContinuous;
    boolean isAuto;
    boolean isKeep;
    int over;
    int shift;
    final int[][] windows = new int[3][];
    final int[] target = new int[4];
    final int[] every = new int[4];
    final int[] from = new int[4];
    int capacity = 4;
    boolean isNewest;
    int pace;

    int cycle;
    // Of the regular and of the injected sequence; a trigger of -1 is idle.
    final int[] startedBy = {-1, -1};
    final int[] startedIn = {-1, -1};
    final int[] position = new int[2];
    final int[] left = new int[2];
    final int[] passes = new int[2];
    final List<List<Integer>> parts = List.of(new ArrayList<>(), new ArrayList<>());
    final List<List<int[]>> results = List.of(new ArrayList<>(), new ArrayList<>());
    final int[][] latest = new int[4][];
    // The conversion in progress: its sequence, its channel, its first cycle and its sample time; what it measured.
    int[] conversion;
    int measured;
    int finished;
    int broken;
    int overruns;
    final int[] fired = new int[4];
    final int[] missed = new int[4];
    final int[] counts = new int[3];
    final int[][] alarms = new int[3][];
    final List<int[]> queue = new ArrayList<>();
    final List<int[]> transferred = new ArrayList<>();

    int signal(int channel, int cycle) {
        return Math.max(0, Math.min(4095, base[channel] + slope[channel] * (cycle % period[channel])));
    }

    boolean fire(int trigger) {
        fired[trigger]++;
        int sequence = target[trigger] - 1;
        if (sequence < 0 || entries.get(sequence).isEmpty() || startedBy[sequence] >= 0) {
            missed[trigger]++;
            return false;
        }
        start(sequence, trigger);
        return true;
    }

    private void start(int sequence, int trigger) {
        startedBy[sequence] = trigger;
        startedIn[sequence] = cycle;
        left[sequence] = passFrom(sequence);
        if (sequence == 1 && conversion != null && conversion[0] == 0) {
            conversion = null;
            broken++;
            if (!isKeep) {
                parts.get(0).clear();
            }
        }
    }

    private int passFrom(int sequence) {
        int rest = entries.get(sequence).size() - position[sequence];
        return sequence == 0 ? Math.min(group, rest) : rest;
    }

    boolean stop() {
        boolean wasBusy = startedBy[0] >= 0;
        if (conversion != null && conversion[0] == 0) {
            conversion = null;
            broken++;
        }
        parts.get(0).clear();
        startedBy[0] = -1;
        startedIn[0] = -1;
        position[0] = 0;
        return wasBusy;
    }

    void pass() {
        for (int i = 0; i < 4; i++) {
            if (every[i] > 0 && cycle >= from[i] && (cycle - from[i]) % every[i] == 0) {
                fire(i);
            }
        }
        if (conversion == null && (startedBy[0] >= 0 || startedBy[1] >= 0)) {
            int sequence = startedBy[1] >= 0 ? 1 : 0;
            int channel = entries.get(sequence).get(position[sequence]);
            conversion = new int[] {sequence, channel, cycle, sample[channel]};
        }
        if (conversion != null && cycle == conversion[2] + conversion[3] - 1) {
            measured = signal(conversion[1], cycle);
        }
        if (conversion != null && cycle == conversion[2] + conversion[3] + 11) {
            finishConversion();
        }
        if (pace > 0 && (cycle + 1) % pace == 0 && !queue.isEmpty()) {
            transferred.add(queue.remove(0));
        }
        cycle++;
    }

    private void finishConversion() {
        int sequence = conversion[0];
        int channel = conversion[1];
        conversion = null;
        finished++;
        parts.get(sequence).add(measured);
        if (parts.get(sequence).size() < Math.pow(2, over)) {
            return;
        }
        int sum = parts.get(sequence).stream().mapToInt(Integer::intValue).sum();
        parts.get(sequence).clear();
        int value = Math.max(0, (int) Math.floor(sum / Math.pow(2, shift)) - trim[channel]);
        int[] result = {channel, startedBy[sequence], cycle, value, cycle - startedIn[sequence]};
        for (int i = 0; i < 3; i++) {
            look(i, result);
        }
        results.get(sequence).add(result);
        if (sequence == 1) {
            latest[position[1]] = result;
        } else if (queue.size() < capacity) {
            queue.add(result);
        } else {
            overruns++;
            if (isNewest) {
                queue.remove(0);
                queue.add(result);
            }
        }
        position[sequence]++;
        left[sequence]--;
        if (left[sequence] == 0) {
            endPass(sequence);
        }
    }

    private void look(int window, int[] result) {
        int[] told = windows[window];
        if (told == null || (told[3] >> result[0]) % 2 == 0) {
            return;
        }
        boolean isOut = result[3] < told[0] || result[3] > told[1];
        counts[window] = isOut ? counts[window] + 1 : 0;
        if (counts[window] >= told[2] && alarms[window] == null) {
            alarms[window] = result;
        }
    }

    private void endPass(int sequence) {
        passes[sequence]++;
        if (position[sequence] == entries.get(sequence).size()) {
            position[sequence] = 0;
        }
        if (sequence == 0 && isAuto && !entries.get(1).isEmpty() && startedBy[1] < 0) {
            start(1, startedBy[0]);
        }
        if (sequence == 0 && isContinuous) {
            left[0] = passFrom(0);
        } else {
            startedBy[sequence] = -1;
            startedIn[sequence] = -1;
        }
    }
}
