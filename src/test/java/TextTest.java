import java.util.Random;

/** Promises 3 to 5 on many texts, right and wrong, beside the model of section 5; a fixed seed chooses each text. */
public final class TextTest {
    private static final Check CHECK = new Check();
    private static final int TEXTS = 6000;
    private static final String[] PIECES = {"bars", "mark", "text", "double", "cut", "part", "rest", "play", "cue", "x",
        "abcdef", "abcdefg", ";", " ", "\n", "0", "1", "00", "5", "12", "13", "99", "100", "150", "0001", "00001",
        "10000", "#", "A", "\t", "\r", "`", "{", "/", ":", "\u00e9", "\u0000", "\u00ff"};
    private static final int[] ENDINGS = new int[5];

    private final Random random;
    private final StringBuilder text = new StringBuilder();
    private int bars = 0;

    private TextTest(int seed) {
        random = new Random(seed);
    }

    public static void main(String[] args) {
        everyBeginning("bars 3 ;\nbars 4 12;mark 5;mark 2;text 3;double 4;cut 2 3;cut 6 6;"
                + "part tuba rest 1 play 2 cue 1;part abcdef;bars 1;part x cue 8;");
        everyBeginning("bars 99;bars 51 1;cut 150 150;part part part;");
        everyBeginning("bars 9;part rest rest 9 play 1;");
        for (int seed = 0; seed < TEXTS; seed++) {
            TextTest test = new TextTest(seed);
            test.write();
            load(test.text.toString(), test.text.length());
        }
        for (int code = 0; code < ENDINGS.length; code++) {
            CHECK.due("some texts end with the code " + code, ENDINGS[code] > TEXTS / 50, true);
        }
        CHECK.finish();
    }

    /** The end of the text in each place, also within its words and numbers. */
    private static void everyBeginning(String text) {
        for (int length = 0; length <= text.length(); length++) {
            load(text, length);
        }
    }

    private static void load(String text, int length) {
        String read = text.substring(0, length);
        TextModel model = new TextModel(read);
        ENDINGS[model.code]++;
        ScoreParts x = new ScoreParts();
        Check.feed(x, text);
        String want = model.code == 0 ? String.valueOf(model.state.bars.size()) : "IllegalStateException";
        CHECK.due("load of " + read, Check.outcome(() -> x.load(length)), want);
        CHECK.due("errorCode of " + read, x.errorCode(), model.code);
        CHECK.due("errorPosition of " + read, x.errorPosition(), model.position);
        CHECK.due("score of " + read, told(x), told(model.code == 0 ? model.state : new Model.State()));
    }

    private static String told(ScoreParts x) {
        StringBuilder all = new StringBuilder();
        for (int place = 0; place < x.bars(); place++) {
            int bar = x.barAt(place);
            all.append(bar).append(' ').append(x.bar(bar, 2)).append(x.bar(bar, 4)).append(x.bar(bar, 5)).append(' ');
            all.append(x.bar(bar, 8)).append(' ');
            for (int part = 0; part < x.parts(); part++) {
                all.append(x.content(part, bar));
            }
        }
        for (int cut = 0; x.cuts() >> cut != 0; cut++) {
            all.append(" cut ").append(x.cut(cut, false)).append(' ').append(x.cut(cut, true));
        }
        return all.append(' ').append(x.marks()).append(' ').append(x.parts()).toString();
    }

    private static String told(Model.State state) {
        StringBuilder all = new StringBuilder();
        for (Model.Bar bar : state.bars) {
            all.append(bar.id).append(' ').append(bar.beats).append(bar.text ? 1 : 0).append(bar.twofold ? 1 : 0);
            int sitting = 0;
            for (int letter : state.marks.keySet()) {
                sitting = state.marks.get(letter) == bar.id ? letter : sitting;
            }
            all.append(' ').append(sitting).append(' ');
            for (int part = 0; part < state.parts; part++) {
                all.append(bar.content[part]);
            }
        }
        for (int[] ends : state.cuts.values()) {
            all.append(" cut ").append(ends[0]).append(' ').append(ends[1]);
        }
        return all.append(' ').append(state.marks.size()).append(' ').append(state.parts).toString();
    }

    // ---- writing a text: mostly right, often near a limit, then spoilt a little

    private int upTo(int greatest) {
        return random.nextInt(greatest + 1);
    }

    private void write() {
        addBars();
        for (int group = upTo(5); group > 0; group--) {
            int many = random.nextInt(4) == 0 ? 5 + upTo(17) : 1 + upTo(2);
            int kind = upTo(6);
            for (int statement = 0; statement < many && text.length() < 700; statement++) {
                addStatement(kind);
            }
        }
        for (int spoilt = random.nextInt(2) * (1 + upTo(1)); spoilt > 0 && text.length() > 0; spoilt--) {
            spoil();
        }
        text.setLength(Math.min(text.length(), 800));
    }

    private void spoil() {
        int at = upTo(text.length() - 1);
        int end = Math.min(text.length(), at + upTo(3));
        if (random.nextInt(3) > 0) {
            text.delete(at, end);
        }
        if (random.nextInt(3) > 0) {
            text.insert(at, PIECES[upTo(PIECES.length - 1)]);
        }
    }

    private void addBars() {
        int count = random.nextInt(30) == 0 ? upTo(101) : random.nextInt(3) == 0 ? 40 + upTo(20) : 1 + upTo(20);
        bars += count;
        text.append("bars ").append(count);
        if (random.nextBoolean()) {
            text.append(' ').append(random.nextInt(30) == 0 ? upTo(14) : 1 + upTo(11));
        }
        text.append(random.nextBoolean() ? ";" : " ;\n");
    }

    private int someBar() {
        return random.nextInt(60) == 0 ? upTo(bars + 1) : 1 + upTo(Math.max(0, bars - 1));
    }

    private void addStatement(int kind) {
        switch (kind) {
            case 0:
                addBars();
                break;
            case 1:
                text.append("mark ").append(someBar()).append(';');
                break;
            case 2:
                text.append(random.nextBoolean() ? "text " : "double ").append(someBar()).append(';');
                break;
            case 3: case 4:
                int first = someBar();
                int last = random.nextInt(20) == 0 ? someBar() : Math.min(first + upTo(9), Math.max(first, bars));
                text.append("cut ").append(first).append(' ').append(last).append(';');
                break;
            default:
                addPart();
        }
    }

    private void addPart() {
        text.append("part ").append((char) ('a' + upTo(25))).append(random.nextBoolean() ? "" : "b");
        int left = bars;
        for (int group = upTo(4); group > 0 && left > 0; group--) {
            int count = random.nextInt(20) == 0 ? upTo(left + 1) : 1 + upTo(Math.min(left, 30) - 1);
            text.append(new String[] {" rest ", " play ", " cue "}[upTo(2)]).append(count);
            left -= count;
        }
        text.append(';');
    }
}
