import java.nio.charset.StandardCharsets;

/** What the tests share: comparing answers, feeding texts, reading the output. */
final class Check {
    private int wrong = 0;
    private int made = 0;

    /** A call that is expected to throw, or whose answer does not matter. */
    interface Call {
        Object run();
    }

    void due(String call, Object got, Object want) {
        made++;
        if (!got.equals(want)) {
            wrong++;
            System.out.println(call + " answered " + got + ", due is " + want);
        }
    }

    /** The exception must be of exactly this class. */
    void dueThrow(String call, Class<? extends RuntimeException> want, Call run) {
        due(call, outcome(run), want.getSimpleName());
    }

    static String outcome(Call run) {
        try {
            return String.valueOf(run.run());
        } catch (RuntimeException e) {
            return e.getClass().getSimpleName();
        }
    }

    void finish() {
        System.out.println(made + " answers, " + wrong + " not as due");
        if (wrong != 0) {
            System.exit(1);
        }
    }

    /** Feeds the text, filled up with spaces to the next multiple of 20 bytes. */
    static void feed(ScoreParts x, String text) {
        feed(x, text.getBytes(StandardCharsets.ISO_8859_1));
    }

    static void feed(ScoreParts x, byte[] text) {
        for (int at = 0; at < text.length; at += 20) {
            x.feed(four(text, at), four(text, at + 4), four(text, at + 8), four(text, at + 12), four(text, at + 16));
        }
    }

    private static int four(byte[] text, int at) {
        int word = 0;
        for (int index = at; index < at + 4; index++) {
            word = word << 8 | (index < text.length ? text[index] & 255 : ' ');
        }
        return word;
    }

    static int load(ScoreParts x, String text) {
        feed(x, text);
        return x.load(text.length());
    }

    static ScoreParts loaded(String text) {
        ScoreParts x = new ScoreParts();
        load(x, text);
        return x;
    }

    static String written(ScoreParts x, int part) {
        int length = x.writePart(part);
        StringBuilder text = new StringBuilder();
        for (int index = 0; index < length; index++) {
            text.append((char) x.outputByte(index));
        }
        return text.toString();
    }

    /** The state, the error and the output. (Tests may make more calls than 512: the class doesn't count them.) */
    static String everything(ScoreParts x) {
        StringBuilder all = new StringBuilder(state(x));
        all.append('\n').append(x.errorCode()).append(' ').append(x.errorPosition()).append('\n');
        String value = outcome(() -> x.outputByte(0));
        for (int index = 1; Character.isDigit(value.charAt(0)); index++) {
            int asked = index;
            all.append(value).append(' ');
            value = outcome(() -> x.outputByte(asked));
        }
        return all.toString();
    }

    /** All that can be asked of the score without changing it, to see that a call changed nothing. */
    static String state(ScoreParts x) {
        StringBuilder all = new StringBuilder();
        int[] bars = new int[x.bars()];
        all.append(x.bars()).append(' ').append(x.played()).append(' ').append(x.beats()).append(' ');
        all.append(x.cuts()).append(' ').append(x.marks()).append(' ').append(x.parts()).append(' ');
        all.append(x.undoCount()).append('\n');
        for (int place = 0; place < bars.length; place++) {
            bars[place] = x.barAt(place);
            all.append(bars[place]).append(':');
            for (int what = 0; what <= 8; what++) {
                all.append(' ').append(x.bar(bars[place], what));
            }
            int bar = bars[place];
            all.append(' ').append(outcome(() -> x.called(bar))).append(' ').append(outcome(() -> x.reason(bar)));
            all.append(' ').append(x.sounding(bar)).append('\n');
        }
        for (int cut = 0; cut < 10; cut++) {
            int number = cut;
            all.append(outcome(() -> x.cut(number, false))).append(outcome(() -> x.cut(number, true))).append(' ');
        }
        for (int letter = 1; letter <= 40; letter++) {
            int asked = letter;
            all.append(outcome(() -> x.mark(asked, 0))).append(' ').append(outcome(() -> x.mark(asked, 1))).append(' ');
            all.append(outcome(() -> x.from(asked, 1))).append(' ').append(x.misled(letter)).append(' ');
        }
        for (int part = 0; part < x.parts(); part++) {
            all.append('\n').append(x.isPrinted(part)).append(' ').append(x.items(part)).append(' ');
            all.append(x.longestRest(part)).append(' ');
            int asked = part;
            for (int bar : bars) {
                all.append(x.content(part, bar)).append(' ').append(outcome(() -> x.itemOf(asked, bar))).append(' ');
                all.append(outcome(() -> x.waiting(asked, bar))).append(' ');
            }
            all.append(errata(x, part));
        }
        return all.toString();
    }

    /** All errata of a part: "id kind noted" each, or the exception's name. */
    static String errata(ScoreParts x, int part) {
        StringBuilder all = new StringBuilder();
        String count = outcome(() -> x.errata(part));
        if (!Character.isDigit(count.charAt(0))) {
            return count;
        }
        for (int erratum = 0; erratum < Integer.parseInt(count); erratum++) {
            all.append(erratum == 0 ? "" : ", ").append(x.erratum(part, erratum, 0)).append(' ');
            all.append(x.erratum(part, erratum, 1)).append(' ').append(x.erratum(part, erratum, 2));
        }
        return all.toString();
    }
}
