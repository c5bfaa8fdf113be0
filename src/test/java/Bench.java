import java.util.NoSuchElementException;

/** What all tests use: setup texts, answers that are due, exceptions that are due, and all that an object tells. */
final class Bench {
    interface Call {
        double answer();
    }

    static final Class<?> ILLEGAL = IllegalArgumentException.class;
    static final Class<?> BOUNDS = IndexOutOfBoundsException.class;
    static final Class<?> STATE = IllegalStateException.class;
    static final Class<?> ABSENT = NoSuchElementException.class;

    private static final int BLANK = 32;
    private static int checks;
    private static int wrong;

    private Bench() {
    }

    static void due(String what, double got, double due) {
        checks++;
        if (got != due) {
            report(what + " answered " + got + ", due is " + due);
        }
    }

    static void dueText(String what, String got, String due) {
        checks++;
        if (!got.equals(due)) {
            report(what + " answered\n  " + got + "\n  due is\n  " + due);
        }
    }

    static void report(String text) {
        wrong++;
        System.out.println(text);
    }

    /** The call has to throw just this exception, and nothing that the object tells may change by it. */
    static void dueThrow(String what, ConverterScanner x, Class<?> due, Call call) {
        String before = everything(x);
        dueThrown(what, thrownBy(call), due);
        dueText("what is told after " + what, everything(x), before);
    }

    static void dueThrown(String what, Class<?> got, Class<?> due) {
        checks++;
        if (got != due) {
            report(what + " threw " + got + ", due is " + due);
        }
    }

    static Class<?> thrownBy(Call call) {
        try {
            call.answer();
            return null;
        } catch (RuntimeException e) {
            return e.getClass();
        }
    }

    static void end(String name) {
        System.out.println(name + ": " + checks + " checks, " + wrong + " wrong");
        if (wrong > 0) {
            System.exit(1);
        }
    }

    static void feed(ConverterScanner x, String text) {
        byte[] bytes = text.getBytes(java.nio.charset.StandardCharsets.ISO_8859_1);
        feedBytes(x, bytes, 0);
    }

    /** Appends the bytes and cuts off the filling behind them; the buffer holds some bytes already. */
    static void feedBytes(ConverterScanner x, byte[] bytes, int before) {
        for (int i = 0; i < bytes.length; i += 20) {
            x.append(word(bytes, i), word(bytes, i + 4), word(bytes, i + 8), word(bytes, i + 12), word(bytes, i + 16));
        }
        x.truncate(before + bytes.length);
    }

    private static int word(byte[] bytes, int start) {
        int number = 0;
        for (int i = start; i < start + 4; i++) {
            number = number << 8 | (i < bytes.length ? bytes[i] & 255 : BLANK);
        }
        return number;
    }

    static ConverterScanner made(String text) {
        ConverterScanner x = new ConverterScanner();
        feed(x, text);
        int statements = x.setup();
        if (statements == ConverterScanner.NONE) {
            report("setup refused with " + x.errorCode() + " at " + x.errorPosition() + ": " + text);
        }
        return x;
    }

    /** All that the object tells without changing; the numbers of the buffer and of the slots are not among it. */
    static String everything(ConverterScanner x) {
        StringBuilder told = new StringBuilder();
        told.append("error ").append(x.errorCode()).append(' ').append(x.errorPosition()).append(' ');
        tell(told, "state", 11, what -> x.state(what));
        for (boolean isInjected : new boolean[] {false, true}) {
            tell(told, "sequence", 8, what -> x.sequence(isInjected, what));
            tell(told, "entries", 9, index -> x.entry(isInjected, index));
            tell(told, "latency", 1, index -> x.latency(isInjected));
            tell(told, "length", 1, index -> x.passLength(isInjected));
        }
        for (int i = 0; i < 8; i++) {
            int channel = i;
            tell(told, "channel", 8, what -> x.channel(channel, what));
            tell(told, "sum", 1, what -> x.sum(channel));
            tell(told, "mean", 1, what -> x.mean(channel));
        }
        for (int i = 0; i < 4; i++) {
            int number = i;
            tell(told, "trigger", 5, what -> x.trigger(number, what));
            tell(told, "window", 9, what -> x.window(number, what));
            tell(told, "injected", 4, what -> x.injected(number, what));
        }
        for (int i = 0; i < x.state(9); i++) {
            int index = i;
            tell(told, "queued", 4, what -> x.queued(index, what));
        }
        for (int i = 0; i < x.memorySize(); i++) {
            int index = i;
            tell(told, "stored", 4, what -> x.stored(index, what));
        }
        return told.toString();
    }

    interface Question {
        double answer(int what);
    }

    private static void tell(StringBuilder told, String name, int count, Question question) {
        told.append(name);
        for (int i = 0; i < count; i++) {
            int what = i;
            double[] answer = new double[1];
            Class<?> thrown = thrownBy(() -> answer[0] = question.answer(what));
            told.append(' ').append(thrown == null ? String.valueOf(answer[0]) : thrown.getSimpleName());
        }
        told.append('\n');
    }
}
