import java.util.NoSuchElementException;

/** Promises 15 to 18: marks, mark, from, called. */
public final class LettersTest {
    private static final Check CHECK = new Check();
    private static final int NONE = ScoreParts.NONE;

    public static void main(String[] args) {
        marks();
        movesOnWhenCut();
        movesOnToAnInsertedBar();
        nearestCounts();
        lost();
        from();
        called();
        CHECK.finish();
    }

    private static void dueMark(ScoreParts x, int letter, int sits, int shows, int counts) {
        CHECK.due("mark(" + letter + ", 0)", x.mark(letter, 0), sits);
        CHECK.due("mark(" + letter + ", 1)", x.mark(letter, 1), shows);
        CHECK.due("mark(" + letter + ", 2)", x.mark(letter, 2), counts);
    }

    private static void marks() {
        ScoreParts x = Check.loaded("bars 9; mark 5; mark 2;");
        CHECK.due("marks", x.marks(), 2);
        dueMark(x, 1, 4, 4, 1);
        dueMark(x, 2, 1, 1, 1);
        for (int letter : new int[] {0, 3, -1, 40, 41, Integer.MIN_VALUE, Integer.MAX_VALUE}) {
            CHECK.dueThrow("mark(" + letter + ", 3)", NoSuchElementException.class, () -> x.mark(letter, 3));
        }
        CHECK.dueThrow("mark(1, 3)", IllegalArgumentException.class, () -> x.mark(1, 3));
        CHECK.dueThrow("mark(1, -1)", IllegalArgumentException.class, () -> x.mark(1, -1));
        x.putMark(40, 8);
        CHECK.due("marks", x.marks(), 3);
        dueMark(x, 40, 8, 8, 1);
    }

    private static void movesOnWhenCut() {
        ScoreParts x = Check.loaded("bars 9; mark 3; cut 3 4; cut 5 5; cut 7 7;");
        dueMark(x, 1, 2, 5, 1);
        CHECK.due("letter at 2", x.bar(2, 7), 0);
        CHECK.due("letter at 5", x.bar(5, 7), 1);
        CHECK.due("letter on 2", x.bar(2, 8), 1);
        CHECK.due("letter on 5", x.bar(5, 8), 0);
        x.openCut(1);
        dueMark(x, 1, 2, 4, 1);
        x.openCut(0);
        dueMark(x, 1, 2, 2, 1);
    }

    private static void movesOnToAnInsertedBar() {
        ScoreParts x = Check.loaded("bars 5; mark 2; mark 4; cut 2 3;");
        CHECK.due("insert within the cut", x.insert(1, 1, 4), 5);
        dueMark(x, 1, 1, 3, 0);
        CHECK.due("insert right behind the cut", x.insert(2, 1, 4), 6);
        dueMark(x, 1, 1, 6, 1);
        dueMark(x, 2, 3, 3, 1);
        CHECK.due("putMark on the bar in the cut", x.putMark(40, 5), NONE);
        dueMark(x, 1, 1, 6, 0);
        dueMark(x, 40, 5, 6, 1);
        x.putMark(39, 6);
        dueMark(x, 40, 5, 6, 0);
        dueMark(x, 39, 6, 6, 1);
        CHECK.dueThrow("from(40, 0), hidden", NoSuchElementException.class, () -> x.from(40, 0));
        CHECK.due("from(39, -1)", x.from(39, -1), 0);
        // Without a cut, each mark shows where it sits.
        x.openCut(0);
        dueMark(x, 1, 1, 1, 1);
        dueMark(x, 40, 5, 5, 1);
    }

    private static void nearestCounts() {
        ScoreParts x = Check.loaded("bars 9; mark 4; mark 3; mark 5; cut 3 4;");
        dueMark(x, 1, 3, 4, 0);
        dueMark(x, 2, 2, 4, 0);
        dueMark(x, 3, 4, 4, 1);
        CHECK.due("letter at 4", x.bar(4, 7), 3);
        x.removeMark(3);
        dueMark(x, 1, 3, 4, 1);
        dueMark(x, 2, 2, 4, 0);
        CHECK.due("letter at 4", x.bar(4, 7), 1);
        x.removeMark(1);
        dueMark(x, 2, 2, 4, 1);
    }

    private static void lost() {
        ScoreParts x = Check.loaded("bars 9; mark 8; mark 9; mark 1; cut 8 9;");
        dueMark(x, 1, 7, NONE, 0);
        dueMark(x, 2, 8, NONE, 0);
        dueMark(x, 3, 0, 0, 1);
        CHECK.due("letter at 7", x.bar(7, 7), 0);
        CHECK.dueThrow("from(1, 0)", NoSuchElementException.class, () -> x.from(1, 0));
        CHECK.due("insert behind the cut", x.insert(8, 1, 4), 9);
        dueMark(x, 1, 7, 9, 0);
        dueMark(x, 2, 8, 9, 1);
    }

    private static void from() {
        ScoreParts x = Check.loaded("bars 9; mark 3; mark 4; cut 3 3; cut 6 7;");
        CHECK.due("from(2, 0)", x.from(2, 0), 3);
        CHECK.due("from(2, 1)", x.from(2, 1), 4);
        CHECK.due("from(2, 2)", x.from(2, 2), 7);
        CHECK.due("from(2, 3)", x.from(2, 3), 8);
        CHECK.due("from(2, -1)", x.from(2, -1), 1);
        CHECK.due("from(2, -2)", x.from(2, -2), 0);
        for (int bars : new int[] {4, -3, Integer.MAX_VALUE, Integer.MIN_VALUE}) {
            CHECK.dueThrow("from(2, " + bars + ")", NoSuchElementException.class, () -> x.from(2, bars));
        }
        CHECK.dueThrow("from(1, 0), hidden", NoSuchElementException.class, () -> x.from(1, 0));
        for (int letter : new int[] {0, 3, -1, 41, Integer.MAX_VALUE, Integer.MIN_VALUE}) {
            CHECK.dueThrow("from(" + letter + ", 0)", NoSuchElementException.class, () -> x.from(letter, 0));
        }
        x.openCut(0);
        CHECK.due("from(1, 1)", x.from(1, 1), 3);
    }

    private static void called() {
        ScoreParts x = Check.loaded("bars 9; mark 3; cut 3 3; cut 6 7;");
        int[] due = {0, 1, -1, 1000, 1001, -1, -1, 1002, 1003};
        for (int bar = 0; bar < due.length; bar++) {
            int asked = bar;
            if (due[bar] >= 0) {
                CHECK.due("called(" + bar + ")", x.called(bar), due[bar]);
            } else {
                CHECK.dueThrow("called(" + bar + ")", IllegalStateException.class, () -> x.called(asked));
            }
        }
        x.putMark(40, 8);
        CHECK.due("called(8)", x.called(8), 40000);
        CHECK.due("called(7)", x.called(7), 1002);
        x.openCut(0);
        CHECK.due("called(3)", x.called(3), 1001);
        CHECK.due("called(2)", x.called(2), 1000);
        x.putMark(2, 0);
        CHECK.due("called(0)", x.called(0), 2000);
        CHECK.due("called(1)", x.called(1), 2001);
        CHECK.dueThrow("called(9)", NoSuchElementException.class, () -> x.called(9));
        CHECK.dueThrow("called(-1)", NoSuchElementException.class, () -> x.called(-1));
    }
}
