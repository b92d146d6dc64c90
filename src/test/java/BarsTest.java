import java.util.NoSuchElementException;

/** Promises 6 to 14: bars, barAt, bar, labelled, played, beats, cuts, cut, hiddenBy. */
public final class BarsTest {
    private static final Check CHECK = new Check();
    private static final int NONE = ScoreParts.NONE;

    public static void main(String[] args) {
        CHECK.due("NONE", NONE, -1);
        places();
        labels();
        labelsBeforeTheFirstOriginal();
        reports();
        labelled();
        playedAndBeats();
        cuts();
        overlappingCuts();
        wrongInputs();
        CHECK.finish();
    }

    private static void places() {
        ScoreParts x = Check.loaded("bars 4;");
        CHECK.due("insert", x.insert(1, 2, 4), 4);
        CHECK.due("insert", x.insert(4, 1, 4), 6);
        int[] order = {0, 1, 4, 6, 5, 2, 3};
        CHECK.due("bars", x.bars(), order.length);
        for (int place = 0; place < order.length; place++) {
            CHECK.due("barAt(" + place + ")", x.barAt(place), order[place]);
            CHECK.due("place of " + order[place], x.bar(order[place], 0), place);
        }
        CHECK.dueThrow("barAt(7)", NoSuchElementException.class, () -> x.barAt(7));
        CHECK.dueThrow("barAt(-1)", NoSuchElementException.class, () -> x.barAt(-1));
        CHECK.dueThrow("barAt(max)", NoSuchElementException.class, () -> x.barAt(Integer.MAX_VALUE));
    }

    private static void dueLabels(ScoreParts x, int... labels) {
        CHECK.due("bars", x.bars(), labels.length);
        for (int place = 0; place < x.bars(); place++) {
            CHECK.due("label at " + place, x.bar(x.barAt(place), 1), labels[place]);
            CHECK.due("labelled " + labels[place], x.labelled(labels[place]), x.barAt(place));
        }
    }

    private static void labels() {
        ScoreParts x = Check.loaded("bars 3;");
        dueLabels(x, 1000, 2000, 3000);
        x.insert(1, 2, 4);
        dueLabels(x, 1000, 2000, 2001, 2002, 3000);
        x.insert(3, 1, 4);
        dueLabels(x, 1000, 2000, 2001, 2002, 2003, 3000);
        x.insert(2, 1, 4);
        dueLabels(x, 1000, 2000, 2001, 2002, 2003, 3000, 3001);
        x.erase(3);
        dueLabels(x, 1000, 2000, 2001, 2002, 3000, 3001);
        // A cut changes no label.
        x.makeCut(0, 1);
        dueLabels(x, 1000, 2000, 2001, 2002, 3000, 3001);
    }

    private static void labelsBeforeTheFirstOriginal() {
        ScoreParts x = Check.loaded("bars 1;");
        x.insert(NONE, 2, 4);
        dueLabels(x, 1, 2, 1000);
        x.insert(NONE, 1, 4);
        dueLabels(x, 1, 2, 3, 1000);
        ScoreParts only = new ScoreParts();
        for (int time = 0; time < 7; time++) {
            only.insert(NONE, 20, 4);
        }
        only.insert(NONE, 10, 4);
        CHECK.due("label of the last of 150 inserted bars", only.bar(only.barAt(149), 1), 150);
    }

    private static void dueBar(ScoreParts x, int bar, int... answers) {
        for (int what = 0; what < answers.length; what++) {
            CHECK.due("bar(" + bar + ", " + what + ")", x.bar(bar, what), answers[what]);
        }
    }

    private static void reports() {
        ScoreParts x = Check.loaded("bars 3 5; bars 2 12; mark 2; mark 4; text 3; double 5; cut 2 3;");
        x.insert(3, 1, 7);
        dueBar(x, 0, 0, 1000, 5, 0, 0, 0, 1, 0, 0);
        dueBar(x, 1, 1, 2000, 5, 0, 0, 0, 0, 0, 1);
        dueBar(x, 2, 2, 3000, 5, 0, 1, 0, 0, 0, 0);
        dueBar(x, 3, 3, 4000, 12, 0, 0, 0, 1, 2, 2);
        dueBar(x, 5, 4, 4001, 7, 1, 0, 0, 1, 0, 0);
        dueBar(x, 4, 5, 5000, 12, 0, 0, 1, 1, 0, 0);
        x.removeMark(2);
        dueBar(x, 3, 3, 4000, 12, 0, 0, 0, 1, 1, 0);
    }

    private static void labelled() {
        ScoreParts x = Check.loaded("bars 3;");
        CHECK.dueThrow("labelled(0)", NoSuchElementException.class, () -> x.labelled(0));
        CHECK.dueThrow("labelled(4000)", NoSuchElementException.class, () -> x.labelled(4000));
        CHECK.dueThrow("labelled(3001)", NoSuchElementException.class, () -> x.labelled(3001));
        CHECK.dueThrow("labelled(-1000)", NoSuchElementException.class, () -> x.labelled(-1000));
        x.insert(NONE, 1, 4);
        CHECK.due("labelled(1)", x.labelled(1), 3);
        x.makeCut(3, 3);
        CHECK.due("labelled(1), cut", x.labelled(1), 3);
        x.openCut(0);
        x.erase(3);
        CHECK.dueThrow("labelled(1), erased", NoSuchElementException.class, () -> x.labelled(1));
    }

    private static void playedAndBeats() {
        ScoreParts x = Check.loaded("bars 3 5; bars 2 12; cut 3 4;");
        CHECK.due("played", x.played(), 3);
        CHECK.due("beats", x.beats(), 22);
        x.insert(2, 3, 1);
        CHECK.due("played, inserted in a cut", x.played(), 3);
        CHECK.due("beats", x.beats(), 22);
        x.insert(4, 3, 1);
        CHECK.due("played", x.played(), 6);
        CHECK.due("beats", x.beats(), 25);
        x.makeCut(0, 10);
        CHECK.due("played, all cut", x.played(), 0);
        CHECK.due("beats", x.beats(), 0);
    }

    private static void cuts() {
        ScoreParts x = Check.loaded("bars 9; cut 2 4; cut 9 9; cut 1 1;");
        CHECK.due("cuts", x.cuts(), 7);
        CHECK.due("cut(0, false)", x.cut(0, false), 1);
        CHECK.due("cut(0, true)", x.cut(0, true), 3);
        CHECK.due("cut(1, false)", x.cut(1, false), 8);
        CHECK.due("cut(1, true)", x.cut(1, true), 8);
        x.insert(2, 1, 4);
        CHECK.due("cut(0, true)", x.cut(0, true), 3);
        CHECK.due("hiddenBy(0)", x.hiddenBy(0), 4);
        x.openCut(1);
        CHECK.due("cuts", x.cuts(), 5);
        CHECK.dueThrow("cut(1, true)", NoSuchElementException.class, () -> x.cut(1, true));
        CHECK.dueThrow("hiddenBy(1)", NoSuchElementException.class, () -> x.hiddenBy(1));
    }

    private static void overlappingCuts() {
        ScoreParts x = Check.loaded("bars 9; cut 2 6; cut 4 8; cut 5 5; cut 9 9;");
        CHECK.due("played", x.played(), 1);
        CHECK.due("hiddenBy(0)", x.hiddenBy(0), 2);
        CHECK.due("hiddenBy(1)", x.hiddenBy(1), 2);
        CHECK.due("hiddenBy(2)", x.hiddenBy(2), 0);
        CHECK.due("hiddenBy(3)", x.hiddenBy(3), 1);
        x.openCut(0);
        CHECK.due("played", x.played(), 3);
        CHECK.due("hiddenBy(1)", x.hiddenBy(1), 4);
        x.makeCut(0, 2);
        CHECK.due("hiddenBy(0), from the first bar on", x.hiddenBy(0), 3);
    }

    private static void wrongInputs() {
        ScoreParts x = Check.loaded("bars 3; cut 1 1;");
        for (int bar : new int[] {-1, 3, Integer.MIN_VALUE, Integer.MAX_VALUE}) {
            CHECK.dueThrow("bar(" + bar + ", 9)", NoSuchElementException.class, () -> x.bar(bar, 9));
        }
        CHECK.dueThrow("bar(0, 9)", IllegalArgumentException.class, () -> x.bar(0, 9));
        CHECK.dueThrow("bar(0, -1)", IllegalArgumentException.class, () -> x.bar(0, -1));
        for (int cut : new int[] {-1, 1, 9, 10, 32, Integer.MIN_VALUE, Integer.MAX_VALUE}) {
            CHECK.dueThrow("cut(" + cut + ", true)", NoSuchElementException.class, () -> x.cut(cut, true));
            CHECK.dueThrow("cut(" + cut + ", false)", NoSuchElementException.class, () -> x.cut(cut, false));
            CHECK.dueThrow("hiddenBy(" + cut + ")", NoSuchElementException.class, () -> x.hiddenBy(cut));
        }
    }
}
