import java.util.Random;

/** Long runs of calls, chosen by a fixed seed, on the class and on the model side by side. */
public final class ModelTest {
    private static final Check CHECK = new Check();
    private static final int RUNS = 20;
    private static final int CALLS = 500;

    private final Random random;
    private final ScoreParts x = new ScoreParts();
    private final Model model = new Model();
    private final int run;

    private ModelTest(int run) {
        this.run = run;
        this.random = new Random(run);
    }

    public static void main(String[] args) {
        for (int run = 0; run < RUNS; run++) {
            new ModelTest(run).play();
        }
        CHECK.finish();
    }

    private void play() {
        load();
        for (int call = 0; call < CALLS; call++) {
            if (random.nextInt(200) == 0) {
                load();
            } else if (random.nextInt(5) < 3) {
                change();
            } else {
                ask();
            }
        }
    }

    private int upTo(int greatest) {
        return random.nextInt(greatest + 1);
    }

    // ---- a score's text, told to the model directly

    private void load() {
        StringBuilder text = new StringBuilder();
        Model.State state = new Model.State();
        boolean isBig = random.nextInt(5) == 0;
        addBars(text, state, isBig ? 80 + upTo(19) : 1 + upTo(9));
        addBars(text, state, isBig ? 20 + upTo(31) : 1 + upTo(9));
        for (int statement = upTo(8); statement > 0; statement--) {
            addStatement(text, state);
        }
        for (int part = upTo(isBig ? 6 : 3); part > 0; part--) {
            addPart(text, state);
        }
        model.now = state;
        model.undoable.clear();
        model.nextId = state.bars.size();
        due("load of " + text, Check.outcome(() -> Check.load(x, text.toString())), state.bars.size() + "");
    }

    private void addBars(StringBuilder text, Model.State state, int count) {
        int beats = 1 + upTo(11);
        boolean isUsual = random.nextBoolean();
        text.append("bars ").append(count).append(isUsual ? "" : " " + beats).append(random.nextBoolean() ? ";" : " ;\n");
        for (int bar = 0; bar < count; bar++) {
            Model.Bar added = new Model.Bar();
            added.id = state.bars.size();
            added.beats = isUsual ? 4 : beats;
            state.bars.add(added);
        }
    }

    private void addStatement(StringBuilder text, Model.State state) {
        int bar = upTo(state.bars.size() - 1);
        switch (upTo(3)) {
            case 0:
                if (!state.marks.containsValue(bar)) {
                    state.marks.put(state.marks.size() + 1, bar);
                    text.append("mark ").append(bar + 1).append(';');
                }
                break;
            case 1:
                state.bars.get(bar).text = true;
                text.append("text ").append(bar + 1).append(';');
                break;
            case 2:
                state.bars.get(bar).twofold = true;
                text.append("double ").append(bar + 1).append(';');
                break;
            default:
                int last = Math.min(bar + upTo(4), state.bars.size() - 1);
                state.cuts.put(state.cuts.size(), new int[] {bar, last});
                text.append("cut ").append(bar + 1).append(' ').append(last + 1).append(';');
        }
    }

    private void addPart(StringBuilder text, Model.State state) {
        text.append("part ").append((char) ('a' + state.parts));
        int told = 0;
        for (int group = upTo(5); group > 0 && told < state.bars.size(); group--) {
            int count = 1 + upTo(Math.min(98, Math.min(state.bars.size() - told, 12) - 1));
            int content = upTo(2);
            text.append(' ').append(new String[] {"rest", "play", "cue"}[content]).append(' ').append(count);
            for (int bar = told; bar < told + count; bar++) {
                state.bars.get(bar).content[state.parts] = content;
            }
            told += count;
        }
        text.append(';');
        state.parts++;
    }

    // ---- arguments: mostly good ones

    private int someBar() {
        if (random.nextInt(25) == 0 || model.now.bars.isEmpty()) {
            return random.nextInt(10) == 0 ? random.nextInt() : upTo(model.nextId + 1) - 1;
        }
        return model.now.bars.get(upTo(model.now.bars.size() - 1)).id;
    }

    private int somePart() {
        return random.nextInt(25) == 0 ? upTo(8) - 1 : upTo(Math.max(0, model.now.parts - 1));
    }

    private int someLetter() {
        if (random.nextInt(3) > 0 && !model.now.marks.isEmpty()) {
            int chosen = upTo(model.now.marks.size() - 1);
            return (int) model.now.marks.keySet().toArray()[chosen];
        }
        return upTo(43) - 1;
    }

    private void change() {
        switch (upTo(24)) {
            case 0: case 1: case 2:
                int after = random.nextInt(5) == 0 ? -1 : someBar();
                int count = random.nextInt(6) == 0 ? upTo(22) : 1 + upTo(2);
                int beats = random.nextInt(9) == 0 ? upTo(14) : 4;
                both("insert " + after + " " + count, () -> x.insert(after, count, beats),
                        () -> model.insert(after, count, beats));
                break;
            case 3: case 4: case 5:
                int erased = someBar();
                both("erase " + erased, () -> x.erase(erased), () -> model.erase(erased));
                break;
            case 6: case 7:
                int first = someBar();
                int last = random.nextInt(3) == 0 ? someBar() : near(first);
                both("makeCut " + first + " " + last, () -> x.makeCut(first, last), () -> model.makeCut(first, last));
                break;
            case 8: case 9: case 10:
                int cut = upTo(random.nextInt(4) == 0 ? 12 : 4) - 1;
                both("openCut " + cut, () -> x.openCut(cut), () -> model.openCut(cut));
                break;
            case 11: case 12: case 13:
                int letter = someLetter();
                int bar = someBar();
                both("putMark " + letter + " " + bar, () -> x.putMark(letter, bar), () -> model.putMark(letter, bar));
                break;
            case 14:
                int removed = someLetter();
                both("removeMark " + removed, () -> x.removeMark(removed), () -> model.removeMark(removed));
                break;
            case 15:
                renew();
                break;
            case 16: case 17: case 18:
                setBar();
                break;
            case 19: case 20:
                int part = somePart();
                int set = someBar();
                int value = random.nextInt(20) == 0 ? upTo(6) - 2 : upTo(2);
                both("setContent " + part + " " + set, () -> x.setContent(part, set, value),
                        () -> model.setContent(part, set, value));
                break;
            case 21:
                int printed = somePart();
                both("print " + printed, () -> x.print(printed), () -> model.print(printed));
                break;
            default:
                both("undo", x::undo, model::undo);
        }
    }

    private int near(int bar) {
        for (int place = 0; place < model.now.bars.size(); place++) {
            if (model.now.bars.get(place).id == bar) {
                return model.now.bars.get(Math.min(place + upTo(3), model.now.bars.size() - 1)).id;
            }
        }
        return bar;
    }

    private void renew() {
        if (random.nextInt(4) > 0) {
            both("undoCount", x::undoCount, () -> model.undoable.size());
        } else if (random.nextBoolean()) {
            both("reletter", x::reletter, model::reletter);
        } else {
            both("renumber", x::renumber, model::renumber);
        }
    }

    private void setBar() {
        int bar = someBar();
        int what = random.nextInt(20) == 0 ? upTo(9) - 1 : new int[] {2, 4, 5}[upTo(2)];
        int value = random.nextInt(20) == 0 ? upTo(14) - 1 : what == 2 ? 3 + upTo(1) : upTo(1);
        both("setBar " + bar + " " + what + " " + value, () -> x.setBar(bar, what, value),
                () -> model.setBar(bar, what, value));
    }

    // ---- questions

    private void ask() {
        switch (upTo(3)) {
            case 0:
                askBars();
                break;
            case 1:
                askLetters();
                break;
            case 2:
                askParts();
                break;
            default:
                askPrints();
        }
    }

    private void askBars() {
        both("bars", x::bars, () -> model.now.bars.size());
        both("played", x::played, () -> model.playedIds().size());
        both("beats", x::beats, model::beats);
        int bar = someBar();
        for (int what = -1; what <= 9; what++) {
            int asked = what;
            both("bar " + bar + " " + what, () -> x.bar(bar, asked), () -> model.bar(bar, asked));
        }
        int label = 1000 * upTo(model.now.bars.size()) + upTo(3);
        both("labelled " + label, () -> x.labelled(label), () -> model.labelled(label));
        int set = 0;
        for (int cut = -1; cut <= 10; cut++) {
            int asked = cut;
            set |= model.now.cuts.containsKey(cut) ? 1 << cut : 0;
            both("cut " + cut, () -> x.cut(asked, false), () -> model.cut(asked)[0]);
            both("cut " + cut, () -> x.cut(asked, true), () -> model.cut(asked)[1]);
            both("hiddenBy " + cut, () -> x.hiddenBy(asked), () -> model.hiddenBy(asked));
        }
        due("cuts", x.cuts(), set);
    }

    private void askLetters() {
        both("marks", x::marks, () -> model.now.marks.size());
        int letter = someLetter();
        for (int what = -1; what <= 3; what++) {
            int asked = what;
            both("mark " + letter + " " + what, () -> x.mark(letter, asked), () -> model.mark(letter, asked));
        }
        int bars = random.nextInt(20) == 0 ? random.nextInt() : upTo(20) - 10;
        both("from " + letter + " " + bars, () -> x.from(letter, bars), () -> model.from(letter, bars));
        int bar = someBar();
        both("called " + bar, () -> x.called(bar), () -> model.called(bar));
        both("misled " + letter, () -> x.misled(letter), () -> model.misled(letter));
    }

    private void askParts() {
        int part = somePart();
        int bar = someBar();
        int item = upTo(12) - 1;
        both("parts", x::parts, () -> model.now.parts);
        both("content " + part + " " + bar, () -> x.content(part, bar), () -> model.content(part, bar));
        both("reason " + bar, () -> x.reason(bar), () -> model.reason(bar));
        both("items " + part, () -> x.items(part), () -> model.itemsOf(part).size());
        for (int what = -1; what <= 4; what++) {
            int asked = what;
            both("item " + part + " " + item, () -> x.item(part, item, asked), () -> model.item(part, item, asked));
        }
        both("itemOf " + part + " " + bar, () -> x.itemOf(part, bar), () -> model.itemOf(part, bar));
        both("longestRest " + part, () -> x.longestRest(part), () -> model.longestRest(part));
        both("waiting " + part + " " + bar, () -> x.waiting(part, bar), () -> model.waiting(part, bar));
        both("sounding " + bar, () -> x.sounding(bar), () -> model.sounding(bar));
        both("writePart " + part, () -> x.writePart(part), () -> model.writePart(part));
        for (int index = -1; index <= model.output.length(); index++) {
            int asked = index;
            both("outputByte " + index, () -> x.outputByte(asked), () -> model.outputByte(asked));
        }
    }

    private void askPrints() {
        int part = somePart();
        both("isPrinted " + part, () -> x.isPrinted(part), () -> {
            model.needPart(part);
            return model.now.prints.containsKey(part);
        });
        both("errata " + part, () -> x.errata(part), () -> model.errata(part).size());
        for (int erratum = -1; erratum <= 8; erratum++) {
            for (int what = -1; what <= 3; what++) {
                int asked = erratum;
                int number = what;
                both("erratum " + part + " " + asked + " " + what, () -> x.erratum(part, asked, number),
                        () -> model.erratum(part, asked, number));
            }
        }
    }

    private void both(String call, Check.Call real, Check.Call modelled) {
        model.forget();
        String want = Check.outcome(modelled);
        due(call, Check.outcome(real), want);
    }

    private void due(String call, Object got, Object want) {
        CHECK.due("run " + run + ": " + call, got, want);
    }
}
