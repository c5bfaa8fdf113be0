import java.util.ArrayList;
import java.util.HashMap;
import java.util.HashSet;
import java.util.List;
import java.util.Map;
import java.util.Set;
import java.util.regex.Matcher;
import java.util.regex.Pattern;

/** The document's section 7 once more, in the plainest form, for comparison: what a setup text tells, or its error. */
final class TextModel {
    private static final Pattern TOKEN = Pattern.compile("[a-z]+|[0-9]+|[^ \n]");

    /** The first offending token is thrown; nothing behind it is read. */
    private static final class Offence extends RuntimeException {
        private static final long serialVersionUID = 1;
    }

    /** How many statements there are; NONE with an error. */
    int statements;
    int code;
    int position = ConverterScanner.NONE;
    /** What is told, by its place in the text: "pace", "channel 3 trim", "window 0 low", and lists of channels. */
    final Map<String, Integer> numbers = new HashMap<>();
    final Map<String, List<Integer>> lists = new HashMap<>();

    private final List<String> tokens = new ArrayList<>();
    private final List<Integer> starts = new ArrayList<>();
    private final Set<String> told = new HashSet<>();
    private int next;

    TextModel(String text) {
        Matcher matcher = TOKEN.matcher(text);
        while (matcher.find()) {
            tokens.add(matcher.group());
            starts.add(matcher.start());
        }
        tokens.add("");
        starts.add(text.length());
        try {
            while (next < tokens.size() - 1) {
                readStatement();
                take(";");
                statements++;
            }
        } catch (Offence e) {
            statements = ConverterScanner.NONE;
        }
    }

    private String token() {
        return tokens.get(next);
    }

    private Offence offence(int code) {
        this.code = code;
        position = starts.get(next);
        return new Offence();
    }

    private boolean isNumber() {
        return token().matches("[0-9]{1,5}");
    }

    private boolean skip(String word) {
        if (!token().equals(word)) {
            return false;
        }
        next++;
        return true;
    }

    private void take(String word) {
        if (!skip(word)) {
            throw offence(1);
        }
    }

    /** What may be told but once, a word or a number, is given by the name under which it is told. */
    private void tellOnce(String name) {
        if (!told.add(name)) {
            throw offence(3);
        }
    }

    private int inRange(int least, int most) {
        if (!isNumber()) {
            throw offence(1);
        }
        int number = Integer.parseInt(token());
        if (number < least || number > most) {
            throw offence(2);
        }
        return number;
    }

    private int number(String name, int least, int most) {
        int number = inRange(least, most);
        next++;
        numbers.put(name, number);
        return number;
    }

    private void readStatement() {
        String word = token();
        if (Set.of("channel", "window", "trigger").contains(word)) {
            next++;
            int number = inRange(0, word.equals("channel") ? 7 : word.equals("window") ? 2 : 3);
            String name = word + " " + number;
            tellOnce(name);
            next++;
            numbers.put(name, number);
            switch (word) {
                case "channel": readChannel(name); break;
                case "window": readWindow(name); break;
                default: readTrigger(name);
            }
        } else if (Set.of("regular", "injected", "group", "continuous", "auto", "over", "queue", "pace").contains(word)) {
            tellOnce(word);
            next++;
            readSingle(word);
        } else {
            throw offence(1);
        }
    }

    private void readChannel(String name) {
        while (Set.of("sample", "trim", "base", "slope", "period").contains(token())) {
            String word = token();
            tellOnce(name + " " + word);
            next++;
            boolean isSigned = word.equals("trim") || word.equals("slope");
            int sign = isSigned && skip("-") ? -1 : 1;
            int least = word.equals("sample") || word.equals("period") ? 1 : 0;
            int most = word.equals("base") ? 4095 : word.equals("period") ? 9999 : 99;
            numbers.put(name + " " + word, sign * number(word, least, most));
        }
    }

    private void readSingle(String word) {
        switch (word) {
            case "regular": readEntries(word, 8); break;
            case "injected": readEntries(word, 4); break;
            case "group": number(word, 1, 8); break;
            case "over":
                number(word, 0, 4);
                take("shift");
                number("shift", 0, 4);
                skip("keep");
                break;
            case "queue":
                number(word, 1, 16);
                skip("newest");
                break;
            case "pace": number(word, 0, 999); break;
            default: break;
        }
    }

    private void readEntries(String name, int most) {
        List<Integer> entries = new ArrayList<>();
        do {
            int channel = inRange(0, 7);
            if (entries.size() == most) {
                throw offence(4);
            }
            entries.add(channel);
            next++;
        } while (isNumber());
        lists.put(name, entries);
    }

    private void readWindow(String name) {
        take("low");
        int low = number(name + " low", 0, 65535);
        take("high");
        number(name + " high", low, 65535);
        take("delay");
        number(name + " delay", 1, 15);
        take("on");
        List<Integer> channels = new ArrayList<>();
        do {
            int channel = inRange(0, 7);
            tellOnce(name + " on " + channel);
            channels.add(channel);
            next++;
        } while (isNumber());
        lists.put(name, channels);
    }

    private void readTrigger(String name) {
        if (!token().equals("regular") && !token().equals("injected")) {
            throw offence(1);
        }
        numbers.put(name + " target", token().equals("regular") ? 1 : 2);
        next++;
        if (skip("every")) {
            number(name + " every", 1, 9999);
            if (skip("from")) {
                number(name + " from", 0, 9999);
            }
        }
    }
}
