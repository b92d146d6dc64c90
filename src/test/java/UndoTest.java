import java.util.ArrayList;
import java.util.List;
import java.util.NoSuchElementException;

/** Promises 43 and 44: undo, undoCount. */
public final class UndoTest {
    private static final Check CHECK = new Check();
    private static final int NONE = ScoreParts.NONE;

    public static void main(String[] args) {
        everyKindOfChange();
        onlyTheLatestTen();
        undoneChangesAreGone();
        idsAreNotGivenAgain();
        whatIsNoChange();
        CHECK.finish();
    }

    private static void everyKindOfChange() {
        ScoreParts x = Check.loaded("bars 9 3; mark 2; mark 6; text 3; double 4; cut 5 6; part a play 4 cue 2; part b;");
        List<Check.Call> changes = List.of(() -> x.insert(3, 3, 5), () -> x.erase(10), () -> x.makeCut(0, 9),
                () -> x.openCut(0), () -> x.putMark(1, 8), () -> x.removeMark(2), x::renumber,
                () -> x.setBar(0, 4, 1), () -> x.setContent(1, 0, 2), () -> x.print(0));
        dueUndone(x, changes);
        dueUndone(x, List.of(() -> x.putMark(40, 0), () -> x.putMark(39, 3), () -> x.removeMark(40), x::reletter,
                () -> x.setBar(0, 2, 9), () -> x.setBar(0, 5, 1), () -> x.print(1), () -> x.insert(NONE, 20, 1),
                () -> x.print(1)));
    }

    private static void dueUndone(ScoreParts x, List<Check.Call> changes) {
        List<String> states = new ArrayList<>();
        for (Check.Call change : changes) {
            states.add(Check.state(x));
            change.run();
            CHECK.due("undoCount", x.undoCount(), states.size());
        }
        for (int left = changes.size() - 1; left >= 0; left--) {
            CHECK.due("undo", x.undo(), left);
            CHECK.due("state with " + left + " changes", Check.state(x), states.get(left));
        }
        CHECK.dueThrow("undo", IllegalStateException.class, x::undo);
    }

    private static void onlyTheLatestTen() {
        ScoreParts x = Check.loaded("bars 3;");
        for (int change = 1; change <= 25; change++) {
            x.setBar(change % 3, 2, change % 12 + 1);
            CHECK.due("undoCount", x.undoCount(), Math.min(change, 10));
        }
        for (int left = 9; left >= 0; left--) {
            CHECK.due("undo", x.undo(), left);
            int change = 15 + left;
            CHECK.due("beats", x.bar(change % 3, 2), change % 12 + 1);
        }
        String before = Check.state(x);
        CHECK.dueThrow("an 11th undo", IllegalStateException.class, x::undo);
        CHECK.due("state", Check.state(x), before);
        CHECK.due("undoCount", x.undoCount(), 0);
    }

    private static void undoneChangesAreGone() {
        ScoreParts x = Check.loaded("bars 3;");
        for (int change = 0; change < 12; change++) {
            x.setBar(0, 2, change + 1);
        }
        x.undo();
        x.undo();
        x.undo();
        CHECK.due("beats", x.bar(0, 2), 9);
        x.setBar(1, 2, 1);
        CHECK.due("undoCount", x.undoCount(), 8);
        x.undo();
        CHECK.due("beats", x.bar(1, 2), 4);
        CHECK.due("beats", x.bar(0, 2), 9);
        CHECK.due("undo", x.undo(), 6);
        CHECK.due("beats", x.bar(0, 2), 8);
    }

    private static void idsAreNotGivenAgain() {
        ScoreParts x = Check.loaded("bars 3;");
        CHECK.due("insert", x.insert(0, 5, 4), 3);
        x.undo();
        CHECK.dueThrow("bar(3, 0)", NoSuchElementException.class, () -> x.bar(3, 0));
        CHECK.due("insert", x.insert(0, 1, 4), 8);
        x.erase(8);
        CHECK.due("insert", x.insert(0, 1, 4), 9);
        x.undo();
        x.undo();
        CHECK.due("the erased bar is there again", x.bar(8, 1), 1001);
        CHECK.due("insert", x.insert(0, 1, 4), 10);
    }

    private static void whatIsNoChange() {
        ScoreParts x = Check.loaded("bars 3; part a;");
        x.setBar(0, 2, 5);
        x.writePart(0);
        int length = x.writePart(0);
        Check.feed(x, "bars 1");
        CHECK.dueThrow("load", IllegalStateException.class, () -> x.load(6));
        CHECK.dueThrow("insert", IllegalArgumentException.class, () -> x.insert(NONE, 0, 4));
        Check.state(x);
        CHECK.due("undoCount", x.undoCount(), 1);
        x.undo();
        CHECK.due("the output is not undone", x.outputByte(length - 1), 10);
        CHECK.due("nor the error", x.errorPosition(), 6);
        Check.load(x, "bars 1;");
        CHECK.due("undoCount behind load", x.undoCount(), 0);
    }
}
