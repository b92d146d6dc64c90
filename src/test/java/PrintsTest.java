import java.util.NoSuchElementException;

/** Promises 28 to 31 and 42: isPrinted, errata, erratum, misled, print. */
public final class PrintsTest {
    private static final Check CHECK = new Check();
    private static final int NONE = ScoreParts.NONE;

    public static void main(String[] args) {
        print();
        notPrinted();
        kindsOneByOne();
        firstKindThatApplies();
        orderOfErrata();
        barsThatAreGone();
        everyBarIsAnErratum();
        cutBarsThatWereNotNoted();
        printWithoutPlayedBars();
        laterPrint();
        erratumsArguments();
        misled();
        misledByLostAndHidden();
        CHECK.finish();
    }

    private static void print() {
        ScoreParts x = Check.loaded("bars 9; mark 3; part a; part b play 2;");
        CHECK.due("isPrinted", x.isPrinted(0), false);
        CHECK.due("print(0)", x.print(0), 2);
        CHECK.due("isPrinted(0)", x.isPrinted(0), true);
        CHECK.due("isPrinted(1)", x.isPrinted(1), false);
        CHECK.due("undoCount", x.undoCount(), 1);
        CHECK.due("errata", x.errata(0), 0);
        CHECK.due("print(1)", x.print(1), 3);
        CHECK.due("undo", x.undo(), 1);
        CHECK.due("isPrinted(1), undone", x.isPrinted(1), false);
        CHECK.due("isPrinted(0)", x.isPrinted(0), true);
        CHECK.dueThrow("print(2)", NoSuchElementException.class, () -> x.print(2));
        CHECK.dueThrow("print(-1)", NoSuchElementException.class, () -> x.print(-1));
        CHECK.due("undoCount", x.undoCount(), 1);
    }

    private static void notPrinted() {
        ScoreParts x = Check.loaded("bars 9; part a; part b;");
        x.print(0);
        CHECK.dueThrow("errata(1)", IllegalStateException.class, () -> x.errata(1));
        CHECK.dueThrow("erratum(1, 0, 0)", IllegalStateException.class, () -> x.erratum(1, 0, 0));
        CHECK.dueThrow("erratum(1, 0, 3)", IllegalArgumentException.class, () -> x.erratum(1, 0, 3));
        CHECK.dueThrow("erratum(2, 0, 3)", NoSuchElementException.class, () -> x.erratum(2, 0, 3));
    }

    private static ScoreParts printed(String text) {
        ScoreParts x = Check.loaded(text);
        x.print(0);
        return x;
    }

    private static void dueErrata(ScoreParts x, int part, String due) {
        CHECK.due("errata of part " + part, Check.errata(x, part), due);
    }

    private static void kindsOneByOne() {
        ScoreParts x = printed("bars 5 3; mark 2; part a rest 3 cue 1; cut 5 5;");
        dueErrata(x, 0, "");
        x.openCut(0);
        dueErrata(x, 0, "4 1 -1");
        x.undo();
        x.makeCut(2, 2);
        dueErrata(x, 0, "2 2 3000");
        x.undo();
        x.insert(3, 1, 4);
        dueErrata(x, 0, "5 1 -1");
        x.undo();
        x.insert(4, 1, 4);
        x.renumber();
        dueErrata(x, 0, "6 1 -1");
        x.undo();
        x.undo();
        x.putMark(1, 0);
        dueErrata(x, 0, "0 4 0, 1 4 1");
        x.undo();
        x.setBar(3, 2, 9);
        dueErrata(x, 0, "3 5 3");
        x.undo();
        x.setContent(0, 3, 1);
        dueErrata(x, 0, "3 6 2");
        x.undo();
        // Texts and double lines are not noted.
        x.setBar(3, 4, 1);
        x.setBar(3, 5, 1);
        dueErrata(x, 0, "");
    }

    private static void firstKindThatApplies() {
        ScoreParts x = Check.loaded("bars 1 3; part a play 1;");
        x.insert(NONE, 2, 5);
        x.print(0);
        x.putMark(9, 2);
        x.setBar(2, 2, 12);
        x.setContent(0, 2, 2);
        x.erase(1);
        dueErrata(x, 0, "1 2 1, 2 3 2");
        x.insert(NONE, 1, 1);
        dueErrata(x, 0, "1 2 1, 2 4 0, 3 1 -1");
        x.removeMark(9);
        dueErrata(x, 0, "1 2 1, 2 5 5, 3 1 -1");
        x.setBar(2, 2, 5);
        dueErrata(x, 0, "1 2 1, 2 6 0, 3 1 -1");
        x.setContent(0, 2, 0);
        dueErrata(x, 0, "1 2 1, 3 1 -1");
        x.makeCut(2, 2);
        dueErrata(x, 0, "1 2 1, 2 2 2, 3 1 -1");
    }

    private static void orderOfErrata() {
        ScoreParts x = Check.loaded("bars 3; part a;");
        x.insert(NONE, 2, 4);
        x.insert(0, 2, 4);
        x.insert(3, 1, 4);
        x.print(0);
        x.insert(1, 1, 4);
        for (int bar = 0; bar < 8; bar++) {
            x.setContent(0, bar, 1);
        }
        dueErrata(x, 0, "0 6 0, 1 6 0, 2 6 0, 3 6 0, 4 6 0, 5 6 0, 6 6 0, 7 6 0, 8 1 -1");
    }

    private static void barsThatAreGone() {
        ScoreParts x = Check.loaded("bars 2; part a;");
        x.insert(0, 3, 4);
        x.print(0);
        x.erase(4);
        dueErrata(x, 0, "4 2 1003");
        x.erase(2);
        dueErrata(x, 0, "2 2 1001, 3 3 1002, 4 2 1003");
        x.undo();
        x.undo();
        dueErrata(x, 0, "");
        // The id of a bar that is gone is not given again, so that a new bar is no old one.
        x.erase(4);
        x.insert(3, 1, 4);
        dueErrata(x, 0, "4 2 1003, 5 1 -1");
        x.undo();
        x.insert(3, 1, 4);
        dueErrata(x, 0, "4 2 1003, 6 1 -1");
    }

    private static void everyBarIsAnErratum() {
        ScoreParts x = printed("bars 2; part a;");
        x.makeCut(0, 1);
        dueErrata(x, 0, "0 2 1000, 1 2 2000");
        x.insert(NONE, 2, 4);
        dueErrata(x, 0, "0 2 1000, 1 2 2000, 2 1 -1, 3 1 -1");
        ScoreParts empty = printed("part a;");
        dueErrata(empty, 0, "");
        empty.insert(NONE, 2, 4);
        dueErrata(empty, 0, "0 1 -1, 1 1 -1");
        empty.insert(NONE, 1, 4);
        dueErrata(empty, 0, "0 1 -1, 1 1 -1, 2 1 -1");
        empty.print(0);
        empty.erase(1);
        empty.insert(2, 1, 4);
        dueErrata(empty, 0, "0 3 2, 1 2 3, 3 1 -1");
    }

    private static void cutBarsThatWereNotNoted() {
        ScoreParts x = printed("bars 6; cut 1 2; cut 4 5; part a;");
        x.setContent(0, 2, 1);
        x.setContent(0, 5, 1);
        x.setContent(0, 0, 1);
        dueErrata(x, 0, "2 6 0, 5 6 0");
        x.openCut(1);
        dueErrata(x, 0, "2 6 0, 3 1 -1, 4 1 -1, 5 6 0");
    }

    private static void printWithoutPlayedBars() {
        ScoreParts x = Check.loaded("bars 3; mark 2; cut 1 3; part a play 3;");
        CHECK.due("print of no items", x.print(0), 0);
        CHECK.due("isPrinted", x.isPrinted(0), true);
        dueErrata(x, 0, "");
        CHECK.due("misled(1), lost then and now", x.misled(1), 0);
        x.openCut(0);
        dueErrata(x, 0, "0 1 -1, 1 1 -1, 2 1 -1");
        CHECK.due("misled(1), it was not noted", x.misled(1), 1);
        x.undo();
        dueErrata(x, 0, "");
    }

    private static void laterPrint() {
        ScoreParts x = printed("bars 3; part a;");
        x.setContent(0, 1, 1);
        dueErrata(x, 0, "1 6 0");
        x.print(0);
        dueErrata(x, 0, "");
        x.setContent(0, 1, 2);
        dueErrata(x, 0, "1 6 1");
        x.undo();
        x.undo();
        dueErrata(x, 0, "1 6 0");
        CHECK.due("isPrinted", x.isPrinted(0), true);
    }

    private static void erratumsArguments() {
        ScoreParts x = printed("bars 3; part a;");
        x.setContent(0, 1, 1);
        for (int erratum : new int[] {1, -1, Integer.MAX_VALUE, Integer.MIN_VALUE}) {
            CHECK.dueThrow("erratum " + erratum, IndexOutOfBoundsException.class, () -> x.erratum(0, erratum, 0));
        }
        CHECK.dueThrow("erratum(0, 0, 3)", IllegalArgumentException.class, () -> x.erratum(0, 0, 3));
        CHECK.dueThrow("erratum(0, 1, -1)", IllegalArgumentException.class, () -> x.erratum(0, 1, -1));
    }

    private static void misled() {
        ScoreParts x = Check.loaded("bars 6; mark 3; part a; part b; part c;");
        CHECK.due("misled(1), nothing printed", x.misled(1), 0);
        x.print(0);
        x.print(2);
        CHECK.due("misled(1)", x.misled(1), 0);
        CHECK.due("misled(40)", x.misled(40), 0);
        x.putMark(40, 0);
        CHECK.due("misled(40), it was not noted", x.misled(40), 5);
        x.print(2);
        CHECK.due("misled(40), noted now", x.misled(40), 1);
        x.putMark(1, 4);
        CHECK.due("misled(1), another bar", x.misled(1), 5);
        x.removeMark(1);
        CHECK.due("misled(1), no bar", x.misled(1), 5);
        x.print(1);
        CHECK.due("misled(1)", x.misled(1), 5);
        for (int letter : new int[] {0, -1, 41, Integer.MAX_VALUE, Integer.MIN_VALUE}) {
            CHECK.dueThrow("misled(" + letter + ")", IllegalArgumentException.class, () -> x.misled(letter));
        }
    }

    private static void misledByLostAndHidden() {
        ScoreParts x = Check.loaded("bars 6; mark 5; mark 6; part a; part b;");
        x.print(1);
        x.makeCut(4, 4);
        CHECK.due("misled(1), hidden", x.misled(1), 2);
        CHECK.due("misled(2), it counts still", x.misled(2), 0);
        x.print(0);
        x.makeCut(5, 5);
        CHECK.due("misled(1), lost", x.misled(1), 2);
        CHECK.due("misled(2), lost", x.misled(2), 3);
        x.openCut(0);
        CHECK.due("misled(1)", x.misled(1), 1);
    }
}
