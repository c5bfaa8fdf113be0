/** Promises 1 to 6: a new object, the buffer and the setup text. */
public final class SetupTest {
    private static final int NONE = ConverterScanner.NONE;

    public static void main(String[] args) {
        promise1NewObject();
        promise2Append();
        promise3Truncate();
        promise4SetupTakesEffect();
        promise4SetupBeginsAnew();
        promise4SetupWithErrorChangesNothing();
        promise4Ranges();
        promise5And6Syntax();
        promise5And6Range();
        promise5And6Repeated();
        promise5And6Limit();
        promise5And6LowestCode();
        promise5And6LatestSetup();
        promise5And6LengthsOfTokens();
        promise5And6FullBuffer();
        Bench.end("SetupTest");
    }

    private static void promise1NewObject() {
        ConverterScanner x = new ConverterScanner();
        int[] state = {0, 0, NONE, NONE, 0, 0, 0, 0, 0, 0, 4};
        for (int what = 0; what < state.length; what++) {
            Bench.due("state of a new object " + what, x.state(what), state[what]);
        }
        int[] sequence = {0, 0, 0, NONE, NONE, 0, 0, 0};
        int[] channel = {3, 0, 0, 0, 1, 0, NONE, NONE};
        for (int what = 0; what < 8; what++) {
            Bench.due("regular sequence of a new object " + what, x.sequence(false, what), sequence[what]);
            Bench.due("injected sequence of a new object " + what, x.sequence(true, what), sequence[what]);
            for (int i = 0; i < 8; i++) {
                Bench.due("channel of a new object " + what, x.channel(i, what), channel[what]);
            }
        }
        for (int i = 0; i < 4; i++) {
            for (int what = 0; what < 5; what++) {
                Bench.due("trigger of a new object " + what, x.trigger(i, what), 0);
            }
        }
        for (int i = 0; i < 3; i++) {
            int window = i;
            Bench.dueThrow("window of a new object", x, Bench.BOUNDS, () -> x.window(window, 0));
        }
        Bench.due("memory of a new object", x.memorySize(), 0);
        Bench.due("errorCode of a new object", x.errorCode(), 0);
        Bench.due("errorPosition of a new object", x.errorPosition(), NONE);
        Bench.dueThrow("restore of a new object", x, Bench.STATE, () -> x.restore(0));
        Bench.due("the buffer of a new object", x.truncate(0), 0);
    }

    private static void promise2Append() {
        ConverterScanner x = new ConverterScanner();
        // "pace 12; auto ;queue" in big-endian order
        Bench.due("append", x.append(0x70616365, 0x2031323b, 0x20617574, 0x6f203b71, 0x75657565), 20);
        // " 7;" and filling
        Bench.due("append", x.append(0x20373b20, 0x20202020, 0x20200a20, 0x20202020, 0x20202020), 40);
        Bench.due("setup of appended bytes", x.setup(), 3);
        Bench.due("pace of appended bytes", x.state(8), 12);
        Bench.due("capacity of appended bytes", x.state(10), 7);
        for (int i = 1; i <= 45; i++) {
            Bench.due("append " + i, x.append(0x20202020, 0x20202020, 0x20202020, 0x20202020, 0x20202020), 20 * i);
        }
        Bench.dueThrow("append to 920", x, Bench.STATE, () -> x.append(1, 2, 3, 4, 5));
        Bench.due("the length after a refused append", x.truncate(900), 900);
        Bench.due("truncate to 881", x.truncate(881), 881);
        Bench.dueThrow("append to 901", x, Bench.STATE, () -> x.append(1, 2, 3, 4, 5));
        Bench.due("truncate to 880", x.truncate(880), 880);
        Bench.due("append to 900", x.append(0x20202020, 0x20202020, 0x20202020, 0x20202020, 0x202020ff), 900);
        Bench.due("setup of 900 bytes", x.setup(), NONE);
        Bench.due("the last byte offends", x.errorPosition(), 899);
        Bench.due("append after setup", x.append(0, 0, 0, 0, 0), 20);
        Bench.due("setup of zero bytes", x.setup(), NONE);
        Bench.due("a byte 0 is a token", x.errorPosition(), 0);
    }

    private static void promise3Truncate() {
        ConverterScanner x = new ConverterScanner();
        Bench.dueThrow("truncate(1) of an empty buffer", x, Bench.ILLEGAL, () -> x.truncate(1));
        Bench.dueThrow("truncate(-1)", x, Bench.ILLEGAL, () -> x.truncate(-1));
        Bench.feed(x, "pace 12;group 3;");
        Bench.dueThrow("truncate(17)", x, Bench.ILLEGAL, () -> x.truncate(17));
        Bench.dueThrow("truncate(least int)", x, Bench.ILLEGAL, () -> x.truncate(Integer.MIN_VALUE));
        Bench.due("truncate(16)", x.truncate(16), 16);
        Bench.due("truncate(8)", x.truncate(8), 8);
        Bench.dueThrow("truncate(9)", x, Bench.ILLEGAL, () -> x.truncate(9));
        Bench.due("setup after truncate", x.setup(), 1);
        Bench.due("pace after truncate", x.state(8), 12);
    }

    private static void promise4SetupTakesEffect() {
        ConverterScanner x = Bench.made(
                "channel 7 trim - 99 sample 99 period 9999 slope-99 base 4095;\nchannel 0;regular 7 0 7;injected 1 1 2 ;"
                + "group 2;continuous;auto;over 4 shift 3 keep;window 2 low 5 high 65535 delay 15 on 7 0 3;"
                + "trigger 3 injected every 9999 from 9998;trigger 0 regular every 00007;trigger 1 regular;"
                + "queue 16 newest;pace 999;");
        int[] channel = {99, -99, 4095, -99, 9999, 0, NONE, NONE};
        for (int what = 0; what < 8; what++) {
            Bench.due("channel 7 of setup " + what, x.channel(7, what), channel[what]);
        }
        Bench.due("channel 0 of setup", x.channel(0, 0), 3);
        Bench.due("regular entries", x.sequence(false, 0), 3);
        Bench.due("injected entries", x.sequence(true, 0), 3);
        Bench.due("regular entry", x.entry(false, 2), 7);
        Bench.due("injected entry", x.entry(true, 2), 2);
        int[] window = {5, 65535, 15, 0b10001001, 0, 0, NONE, NONE, NONE};
        for (int what = 0; what < 9; what++) {
            Bench.due("window 2 of setup " + what, x.window(2, what), window[what]);
        }
        int[][] triggers = {{1, 7, 0}, {1, 0, 0}, {0, 0, 0}, {2, 9999, 9998}};
        for (int i = 0; i < 4; i++) {
            for (int what = 0; what < 3; what++) {
                Bench.due("trigger of setup " + i + " " + what, x.trigger(i, what), triggers[i][what]);
            }
        }
        Bench.due("capacity of setup", x.state(10), 16);
        Bench.due("pace of setup", x.state(8), 999);
        // The over statement tells 16 conversions.
        Bench.due("length of the injected pass", x.passLength(true), 3 * 15 * 16);
        statements("", 0);
        statements(" \n ", 0);
        statements("auto;", 1);
        statements("regular 0 1 2 3 4 5 6 7;injected 3 3 3 3;", 2);
        statements("channel0sample3trim-5;channel 1 trim 0;channel 2 trim - 0;", 3);
    }

    private static void statements(String text, int due) {
        ConverterScanner x = new ConverterScanner();
        Bench.feed(x, text);
        Bench.due("setup of " + text, x.setup(), due);
        Bench.due("errorCode of " + text, x.errorCode(), 0);
        Bench.due("errorPosition of " + text, x.errorPosition(), NONE);
    }

    private static void promise4SetupBeginsAnew() {
        ConverterScanner x = Bench.made("regular 0 1;continuous;injected 2;auto;window 0 low 0 high 0 delay 1 on 0;"
                + "channel 0 base 9;queue 1;pace 3;trigger 0 regular every 1;group 1;over 1 shift 0 keep;");
        x.run(500);
        x.save(0);
        x.save(1);
        Bench.feed(x, "regular 4 5 6;");
        Bench.due("second setup", x.setup(), 1);
        Bench.dueText("what is told after the second setup", Bench.everything(x),
                Bench.everything(Bench.made("regular 4 5 6;")));
        Bench.dueThrow("restore after setup", x, Bench.STATE, () -> x.restore(0));
        Bench.dueThrow("restore after setup", x, Bench.STATE, () -> x.restore(1));
        Bench.feed(x, "trigger 0 regular;regular 4 5 6;");
        x.setup();
        x.fire(0);
        Bench.due("run without over and group", x.run(45), 3);
        for (int i = 0; i < 3; i++) {
            // What one text told is not repeated in the next one.
            Bench.feed(x, "channel 0;window 0 low 0 high 0 delay 1 on 0;trigger 0 regular;regular 1;injected 1;group 1;"
                    + "continuous;auto;over 0 shift 0;queue 1;pace 1;");
            Bench.due("the same setup again", x.setup(), 11);
        }
        Bench.due("the buffer is empty after setup", x.truncate(0), 0);
        Bench.due("setup of nothing", x.setup(), 0);
        Bench.dueText("what is told after setup of nothing", Bench.everything(x),
                Bench.everything(new ConverterScanner()));
    }

    private static void promise4SetupWithErrorChangesNothing() {
        String text = "regular 0 1;continuous;channel 0 base 9;pace 40;trigger 0 regular every 1;";
        ConverterScanner x = Bench.made(text);
        x.run(100);
        x.save(1);
        String before = Bench.everything(x);
        Bench.feed(x, "regular 5 6 7;channel 0 base 4;pace 3;auto;over 2 shift 2;queue 9;x");
        Bench.due("setup with an error", x.setup(), NONE);
        Bench.due("errorCode", x.errorCode(), 1);
        Bench.dueThrow("truncate(1) after an error", x, Bench.ILLEGAL, () -> x.truncate(1));
        Bench.due("restore after an error", x.restore(1), 100);
        Bench.due("run after an error", x.run(5000), 334);
        Bench.due("restore after an error", x.restore(1), 100);
        Bench.dueText("what is told after an error", Bench.everything(x).replaceFirst("error .* state", "state"),
                before.replaceFirst("error .* state", "state"));
    }

    private static void error(String text, int code, int position) {
        ConverterScanner x = new ConverterScanner();
        Bench.feed(x, text);
        Bench.due("setup of " + text, x.setup(), NONE);
        Bench.due("errorCode of " + text, x.errorCode(), code);
        Bench.due("errorPosition of " + text, x.errorPosition(), position);
    }

    /** The number between before and after may be least to most, but not one less or more. */
    private static void range(String before, int least, int most, String after) {
        statements(before + least + after, 1);
        statements(before + most + after, 1);
        error(before + (most + 1) + after, 2, before.length());
        error(before + 99999 + after, 2, before.length());
        if (least > 0) {
            error(before + (least - 1) + after, 2, before.length());
        }
    }

    private static void promise4Ranges() {
        range("channel ", 0, 7, ";");
        range("channel 3 sample ", 1, 99, ";");
        range("channel 3 trim ", 0, 99, ";");
        range("channel 3 trim -", 0, 99, ";");
        range("channel 3 base ", 0, 4095, " trim 3;");
        range("channel 3 slope ", 0, 99, ";");
        range("channel 3 slope - ", 0, 99, ";");
        range("channel 3 period ", 1, 9999, ";");
        range("regular ", 0, 7, ";");
        range("regular 1 ", 0, 7, " 3;");
        range("injected ", 0, 7, ";");
        range("injected 5 5 ", 0, 7, ";");
        range("group ", 1, 8, ";");
        range("over ", 0, 4, " shift 0;");
        range("over 0 shift ", 0, 4, ";");
        range("over 0 shift ", 0, 4, " keep;");
        range("window ", 0, 2, " low 0 high 0 delay 1 on 0;");
        range("window 0 low ", 0, 65535, " high 65535 delay 1 on 0;");
        range("window 0 low 0 high ", 0, 65535, " delay 1 on 0;");
        range("window 0 low 77 high ", 77, 65535, " delay 1 on 0;");
        range("window 0 low 0 high 0 delay ", 1, 15, " on 0;");
        range("window 0 low 0 high 0 delay 1 on ", 0, 7, ";");
        range("trigger ", 0, 3, " regular;");
        range("trigger 0 regular every ", 1, 9999, ";");
        range("trigger 0 injected every 5 from ", 0, 9999, ";");
        range("queue ", 1, 16, ";");
        range("queue ", 1, 16, " newest;");
        range("pace ", 0, 999, ";");
    }

    private static void promise5And6Syntax() {
        error(";", 1, 0);
        error("auto", 1, 4);
        error("auto \n ", 1, 7);
        error("auto;;", 1, 5);
        error("auto 3;", 1, 5);
        error("  channe 3;", 1, 2);
        error("channels 3;", 1, 0);
        error("Channel 3;", 1, 0);
        error("channel\t3;", 1, 7);
        error("channel\r3;", 1, 7);
        error("channel 3,", 1, 9);
        error("channel \u00ff;", 1, 8);
        error("channel;", 1, 7);
        error("channel", 1, 7);
        error("channel - 3;", 1, 8);
        error("channel 3 sample - 3;", 1, 17);
        error("channel 3 base -3;", 1, 15);
        error("channel 3 period -3;", 1, 17);
        error("channel 3 trim - - 3;", 1, 17);
        error("channel 3 trim;", 1, 14);
        error("channel 3 keep;", 1, 10);
        error("channel 3 4;", 1, 10);
        error("continuousx;", 1, 0);
        error("pace 000001;", 1, 5);
        error("pace 100000;", 1, 5);
        error("pace 4294967297;", 1, 5);
        error("pace 4 ;pace 4294967297;", 3, 8);
        statements("pace 00001;", 1);
        error("regular;", 1, 7);
        error("regular 0 1 -", 1, 12);
        error("regular 0 000001;", 1, 10);
        error("regular 0 1 2 3 4 5 6 7 000000;", 1, 24);
        error("injected;", 1, 8);
        error("group;", 1, 5);
        error("over 1;", 1, 6);
        error("over 1 keep;", 1, 7);
        error("over 1 shift;", 1, 12);
        error("over 1 shift 1 keep keep;", 1, 20);
        error("over 1 shift 1 newest;", 1, 15);
        error("window 0 high 1;", 1, 9);
        error("window 0 low 1 delay 1;", 1, 15);
        error("window 0 low 1 high 1 on 1;", 1, 22);
        error("window 0 low 1 high 1 delay 1;", 1, 29);
        error("window 0 low 1 high 1 delay 1 on;", 1, 32);
        error("window 0 low 1 high 000000 delay 1 on 0;", 1, 20);
        error("window 0 low 1 high 1 delay 1 on 0 on 1;", 1, 35);
        error("trigger 0;", 1, 9);
        error("trigger 0 every 5;", 1, 10);
        error("trigger 0 regular from 5;", 1, 18);
        error("trigger 0 regular every;", 1, 23);
        error("trigger 0 regular every 5 every 5;", 1, 26);
        error("trigger 0 regular injected;", 1, 18);
        error("queue newest;", 1, 6);
        error("queue 3 newest newest;", 1, 15);
        error("newest;", 1, 0);
        error("5;", 1, 0);
        error("autoz;", 1, 0);
        error("zauto;", 1, 0);
        error("auto{;", 1, 4);
        error("auto`;", 1, 4);
        error("pace 5:", 1, 6);
        error("pace 5/", 1, 6);
        error("-", 1, 0);
    }

    private static void promise5And6Range() {
        error("auto;channel 0 trim - 100;", 2, 22);
        error("channel 8 sample 100;", 2, 8);
        error("window 0 low 10 high 9 delay 99 on 9;", 2, 21);
        error("trigger 4 x;", 2, 8);
        error("over 5 shift 5;", 2, 5);
        error("window 0 low 65536 high 1;", 2, 13);
    }

    private static void promise5And6Repeated() {
        error("channel 3;channel 2;channel 3;", 3, 28);
        error("channel 3;channel 03;", 3, 18);
        error("window 1 low 0 high 0 delay 1 on 0;window 1 x", 3, 42);
        error("trigger 3 regular;trigger 3 x", 3, 26);
        error("regular 0;regular", 3, 10);
        error("injected 0;injected", 3, 11);
        error("group 1;group", 3, 8);
        error("continuous;continuous;", 3, 11);
        error("auto;auto;", 3, 5);
        error("over 0 shift 0;over", 3, 15);
        error("queue 4;queue", 3, 8);
        error("pace 0;pace", 3, 7);
        error("channel 0 sample 1 sample", 3, 19);
        error("channel 0 trim - 1 base 0 trim", 3, 26);
        error("channel 0 base 0 base", 3, 17);
        error("channel 0 slope 0 slope", 3, 18);
        error("channel 0 period 1 period", 3, 19);
        error("channel 0 sample 1 trim 1 base 1 slope 1 period 1 sample", 3, 50);
        // What is told between the two does not make the first one forgotten.
        error("window 0 low 0 high 0 delay 1 on 0;window 2 low 0 high 0 delay 1 on 0;window 0", 3, 77);
        error("trigger 0 regular;trigger 3 injected;trigger 0", 3, 45);
        error("pace 1;auto;queue 2;pace", 3, 20);
        error("channel 0 sample 1 trim 1 sample", 3, 26);
        error("window 1 low 0 high 0 delay 1 on 0 1 0;", 3, 37);
        error("window 1 low 0 high 0 delay 1 on 0 1 2 3 4 5 6 7 7;", 3, 49);
        statements("window 1 low 0 high 0 delay 1 on 7 6 5 4 3 2 1 0;", 1);
        statements("channel 1 sample 2;channel 2 sample 2;regular 1 1;trigger 1 regular;trigger 2 regular;", 5);
    }

    private static void promise5And6Limit() {
        error("regular 0 0 0 0 0 0 0 0 7;", 4, 24);
        error("injected 0 0 0 0 7;", 4, 17);
        error("regular 0 0 0 0 0 0 0 0 auto;", 1, 24);
        error("injected 0 0 0 0", 1, 16);
    }

    private static void promise5And6LowestCode() {
        error("regular 0 0 0 0 0 0 0 0 8;", 2, 24);
        error("injected 0 0 0 0 8;", 2, 17);
        error("window 1 low 0 high 0 delay 1 on 0 1 2 3 4 5 6 7 8;", 2, 49);
        error("regular 0;regularx", 1, 10);
        error("auto;regular 0 auto", 1, 15);
    }

    private static void promise5And6LatestSetup() {
        ConverterScanner x = new ConverterScanner();
        Bench.feed(x, "pace 1000;");
        x.setup();
        Bench.due("errorCode after a range error", x.errorCode(), 2);
        Bench.due("errorPosition after a range error", x.errorPosition(), 5);
        x.run(1);
        x.save(0);
        x.restore(0);
        x.append(0, 0, 0, 0, 0);
        x.truncate(0);
        Bench.due("errorCode after other calls", x.errorCode(), 2);
        Bench.due("errorPosition after other calls", x.errorPosition(), 5);
        Bench.feed(x, "auto");
        x.setup();
        Bench.due("errorCode of the later error", x.errorCode(), 1);
        Bench.due("errorPosition of the later error", x.errorPosition(), 4);
        x.restore(0);
        Bench.due("errorCode is not restored", x.errorCode(), 1);
        Bench.due("errorPosition is not restored", x.errorPosition(), 4);
        Bench.feed(x, "pace 10;");
        x.setup();
        Bench.due("errorCode after a good setup", x.errorCode(), 0);
        Bench.due("errorPosition after a good setup", x.errorPosition(), NONE);
    }

    private static void promise5And6LengthsOfTokens() {
        statements("continuous;", 1);
        error("continuouss;", 1, 0);
        error("ccontinuous;", 1, 0);
        error("autoautoau;", 1, 0);
        error("a".repeat(899) + ";", 1, 0);
        statements("pace 00999;", 1);
        error("pace 000999;", 1, 5);
        error("pace 0;pace 00000;", 3, 7);
        statements("channel 00007 sample 00099 trim -00099 base 04095 slope 00000 period 09999;", 1);
        error("channel 000007;", 1, 8);
        error("channel 0 trim -000099;", 1, 16);
        error("channel 0 base 100000;", 1, 15);
        error("9".repeat(900), 1, 0);
        // 59 and 45 are the bytes of the two signs that the grammar has, but a number is no sign.
        error("auto 000059", 1, 5);
        error("auto 59", 1, 5);
        error("channel 0 trim 000045 5;", 1, 15);
        error("channel 0 trim 45 5;", 1, 18);
    }

    private static void promise5And6FullBuffer() {
        String blanks = " \n".repeat(450);
        statements(blanks, 0);
        statements(blanks.substring(5) + "auto;", 1);
        statements("auto;" + blanks.substring(5), 1);
        statements("auto;" + blanks.substring(12) + "pace 5;", 2);
        error("auto;" + blanks.substring(6) + "x", 1, 899);
        error("auto" + blanks.substring(4), 1, 900);
        error(blanks.substring(7) + "pace 55", 1, 900);
        error(blanks.substring(8) + "pace 999", 1, 900);
        error(blanks.substring(9) + "pace 9999", 2, 896);
        ConverterScanner x = Bench.made("pace 7;");
        Bench.feed(x, "auto;" + blanks.substring(12) + "pace 55");
        Bench.due("a refused text of 900 bytes", x.setup(), NONE);
        Bench.due("the earlier setup stays", x.state(8), 7);
        Bench.due("the buffer is empty", x.append(0, 0, 0, 0, 0), 20);
    }
}
