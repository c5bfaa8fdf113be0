import java.util.List;
import java.util.regex.Matcher;
import java.util.regex.Pattern;

/** Promises 4 to 6: many setup texts, right and wrong ones, beside the model of them. */
public final class TextTest {
    private static final int NONE = ConverterScanner.NONE;
    private static final int MOST_BYTES = 900;
    private static final Pattern TOKEN = Pattern.compile("[a-z]+|[0-9]+|[^ \n]");
    private static final String[] PIECES = {"channel", "regular", "injected", "group", "continuous", "auto", "over",
        "window", "trigger", "queue", "pace", "sample", "trim", "base", "slope", "period", "shift", "keep", "low", "high",
        "delay", "on", "every", "from", "newest", ";", "-", ";;", "- -", "0", "1", "2", "3", "4", "5", "7", "8", "9", "15",
        "16", "17", "99", "100", "999", "1000", "4095", "4096", "9999", "10000", "65535", "65536", "99999", "00000",
        "000000", "100000", "0000059", "0000045", "x", "continuousl", "chan", "newests", "\u00fc", "\u0000", "\t", "\r",
        "\u00a0", "A", "/", ":", "`", "{"};
    private static final String[] STATEMENTS = {"channel 3 trim - 99 sample 1;", "channel 0 period 9999 slope -99 base 4095;",
        "channel 7;", "regular 0 1 2 3 4 5 6 7;", "regular 7;", "injected 3 3 3 3;", "group 8;", "continuous;", "auto;",
        "over 4 shift 4 keep;", "over 0 shift 0;", "window 2 low 65535 high 65535 delay 15 on 7 6 5 4 3 2 1 0;",
        "window 0 low 0 high 0 delay 1 on 0;", "window 1 low 10 high 20 delay 2 on 4 5;", "trigger 3 injected;",
        "trigger 0 regular every 9999 from 9999;", "trigger 1 injected every 1;", "queue 16 newest;", "queue 1;",
        "pace 999;", "pace 0;"};

    public static void main(String[] args) {
        for (int seed = 0; seed < 20000; seed++) {
            Dice dice = new Dice(seed);
            check(changed(dice, right(dice)));
        }
        for (int seed = 0; seed < 4000; seed++) {
            check(wild(new Dice(seed)));
        }
        for (int seed = 0; seed < 300; seed++) {
            check(FuzzTest.tell(new Dice(seed), new Model()));
        }
        everyEndOfARightText();
        everyByteAtEachPlace();
        Bench.end("TextTest");
    }

    // ---- texts

    private static String right(Dice dice) {
        StringBuilder text = new StringBuilder();
        for (int i = dice.between(1, 6); i > 0; i--) {
            text.append(STATEMENTS[dice.roll(STATEMENTS.length)]).append(dice.isLucky(3) ? " " : "");
        }
        return text.toString();
    }

    /** A text with up to three of its tokens taken out, doubled, replaced or moved apart. */
    private static String changed(Dice dice, String text) {
        String changed = text;
        for (int i = dice.roll(4); i > 0; i--) {
            Matcher matcher = TOKEN.matcher(changed);
            long tokens = matcher.results().count();
            if (tokens == 0) {
                return changed;
            }
            matcher.reset();
            for (int skipped = dice.roll((int) tokens); skipped >= 0; skipped--) {
                matcher.find();
            }
            changed = changed.substring(0, matcher.start()) + instead(dice, matcher.group())
                    + changed.substring(matcher.end());
        }
        return changed;
    }

    private static String instead(Dice dice, String token) {
        switch (dice.roll(7)) {
            case 0: return "";
            case 1: return token + " " + token;
            case 2: return token + token;
            case 3: return " \n" + token + "\n ";
            case 4: return token + " " + PIECES[dice.roll(PIECES.length)];
            default: return PIECES[dice.roll(PIECES.length)];
        }
    }

    private static String wild(Dice dice) {
        StringBuilder text = new StringBuilder();
        for (int i = dice.roll(60); i > 0; i--) {
            text.append(dice.isLucky(4) ? STATEMENTS[dice.roll(STATEMENTS.length)] : PIECES[dice.roll(PIECES.length)]);
            text.append(dice.isLucky(5) ? "" : " ");
        }
        return text.length() > MOST_BYTES ? text.substring(0, MOST_BYTES) : text.toString();
    }

    private static void everyEndOfARightText() {
        String whole = String.join(" ", STATEMENTS[0], STATEMENTS[3], STATEMENTS[5], STATEMENTS[9], STATEMENTS[11],
                STATEMENTS[15], STATEMENTS[17], STATEMENTS[19]) + " \n";
        for (int length = 0; length <= whole.length(); length++) {
            check(whole.substring(0, length));
            check(whole.substring(0, length) + "  ");
        }
    }

    private static void everyByteAtEachPlace() {
        for (char sign = 0; sign < 256; sign++) {
            check("" + sign);
            check(sign + "pace 5;");
            check("pace" + sign + "5;");
            check("pace 5" + sign + ";");
            check("pace 5;" + sign);
            check("channel 0 trim" + sign + "5;");
            check("auto" + sign);
        }
    }

    // ---- the check

    private static void check(String text) {
        TextModel model = new TextModel(text);
        ConverterScanner x = new ConverterScanner();
        Bench.feed(x, text);
        Bench.due("setup of " + text, x.setup(), model.statements);
        Bench.due("errorCode of " + text, x.errorCode(), model.code);
        Bench.due("errorPosition of " + text, x.errorPosition(), model.position);
        Bench.due("the buffer after " + text, x.append(0, 0, 0, 0, 0), 20);
        if (model.statements == NONE) {
            String told = Bench.everything(x);
            String first = Bench.everything(new ConverterScanner());
            Bench.dueText("what is told after " + text, told.substring(told.indexOf("state")),
                    first.substring(first.indexOf("state")));
        } else {
            checkNumbers(text, x, model);
            checkLists(text, x, model);
        }
    }

    private static void checkNumbers(String text, ConverterScanner x, TextModel model) {
        for (int i = 0; i < 8; i++) {
            checkAll(text, model, "channel " + i, List.of(" sample", " trim", " base", " slope", " period"),
                    new int[] {3, 0, 0, 0, 1}, channelNumbers(x, i));
        }
        for (int i = 0; i < 4; i++) {
            int[] got = {x.trigger(i, 0), x.trigger(i, 1), x.trigger(i, 2)};
            checkAll(text, model, "trigger " + i, List.of(" target", " every", " from"), new int[3], got);
        }
        for (int i = 0; i < 3; i++) {
            int window = i;
            if (model.numbers.containsKey("window " + i)) {
                int[] got = {x.window(i, 0), x.window(i, 1), x.window(i, 2)};
                checkAll(text, model, "window " + i, List.of(" low", " high", " delay"), new int[3], got);
            } else {
                Bench.dueThrown("a window that is not told", Bench.thrownBy(() -> x.window(window, 0)), Bench.BOUNDS);
            }
        }
        checkAll(text, model, "", List.of("pace", "queue"), new int[] {0, 4}, new int[] {x.state(8), x.state(10)});
    }

    private static int[] channelNumbers(ConverterScanner x, int channel) {
        int[] numbers = new int[5];
        for (int what = 0; what < numbers.length; what++) {
            numbers[what] = x.channel(channel, what);
        }
        return numbers;
    }

    private static void checkAll(String text, TextModel model, String name, List<String> words, int[] first, int[] got) {
        for (int i = 0; i < got.length; i++) {
            String word = name + words.get(i);
            Bench.due(word + " of " + text, got[i], model.numbers.getOrDefault(word, first[i]));
        }
    }

    private static void checkLists(String text, ConverterScanner x, TextModel model) {
        for (boolean isInjected : new boolean[] {false, true}) {
            List<Integer> entries = model.lists.getOrDefault(isInjected ? "injected" : "regular", List.of());
            Bench.due("the entries of " + text, x.sequence(isInjected, 0), entries.size());
            int length = 0;
            for (int i = 0; i < entries.size(); i++) {
                Bench.due("entry " + i + " of " + text, x.entry(isInjected, i), entries.get(i));
                length += x.channel(entries.get(i), 0) + 12;
            }
            Bench.due("passLength of " + text, x.passLength(isInjected), length << model.numbers.getOrDefault("over", 0));
        }
        for (int i = 0; i < 3; i++) {
            if (model.numbers.containsKey("window " + i)) {
                int bits = 0;
                for (int channel : model.lists.get("window " + i)) {
                    bits |= 1 << channel;
                }
                Bench.due("the channels of window " + i + " of " + text, x.window(i, 3), bits);
            }
        }
    }
}
