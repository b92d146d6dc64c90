import java.util.NoSuchElementException;

/** Promises 32 to 41: insert, erase, makeCut, openCut, putMark, removeMark, reletter, renumber, setBar, setContent. */
public final class ChangesTest {
    private static final Check CHECK = new Check();
    private static final int NONE = ScoreParts.NONE;

    public static void main(String[] args) {
        insert();
        insertWrong();
        erase();
        eraseWrong();
        makeCut();
        makeCutWrong();
        openCut();
        putMark();
        putMarkWrong();
        removeMark();
        reletter();
        renumber();
        setBar();
        setContent();
        changesWithoutEffect();
        CHECK.finish();
    }

    /** A call that throws must change nothing. */
    private static void dueThrow(ScoreParts x, String call, Class<? extends RuntimeException> want, Check.Call run) {
        String before = Check.state(x);
        CHECK.dueThrow(call, want, run);
        CHECK.due("state behind " + call, Check.state(x), before);
    }

    private static String ids(ScoreParts x) {
        StringBuilder all = new StringBuilder();
        for (int place = 0; place < x.bars(); place++) {
            all.append(place == 0 ? "" : " ").append(x.barAt(place));
        }
        return all.toString();
    }

    private static void insert() {
        ScoreParts x = Check.loaded("bars 3; text 2; double 2; cut 1 2; part a play 3; part b cue 3;");
        CHECK.due("insert(1, 2, 12)", x.insert(1, 2, 12), 3);
        CHECK.due("ids", ids(x), "0 1 3 4 2");
        CHECK.due("insert(2, 1, 1)", x.insert(2, 1, 1), 5);
        CHECK.due("insert(NONE, 1, 1)", x.insert(NONE, 1, 1), 6);
        CHECK.due("insert(0, 1, 1)", x.insert(0, 1, 1), 7);
        CHECK.due("ids", ids(x), "6 0 7 1 3 4 2 5");
        CHECK.due("undoCount", x.undoCount(), 4);
        for (int bar = 3; bar <= 7; bar++) {
            CHECK.due("beats of " + bar, x.bar(bar, 2), bar <= 4 ? 12 : 1);
            CHECK.due("inserted " + bar, x.bar(bar, 3), 1);
            CHECK.due("text of " + bar, x.bar(bar, 4), 0);
            CHECK.due("double line of " + bar, x.bar(bar, 5), 0);
            CHECK.due("played " + bar, x.bar(bar, 6), bar == 7 ? 0 : 1);
            CHECK.due("content of " + bar, x.content(0, bar) + x.content(1, bar), 0);
        }
        CHECK.due("text stays", x.bar(1, 4), 1);
        CHECK.due("content stays", x.content(0, 2), 1);
        CHECK.due("insert of 20", x.insert(7, 20, 4), 8);
        // A bar that stands where one stood that was erased takes nothing over from it.
        x.insert(NONE, 1, 4);
        x.setContent(1, 28, 2);
        x.setBar(28, 4, 1);
        x.setBar(28, 5, 1);
        x.erase(28);
        x.insert(NONE, 1, 4);
        CHECK.due("new content", x.content(1, 29), 0);
        CHECK.due("new text", x.bar(29, 4) + x.bar(29, 5), 0);
    }

    private static void insertWrong() {
        ScoreParts x = Check.loaded("bars 99; bars 31; part a;");
        dueThrow(x, "insert(-2, 0, 0)", NoSuchElementException.class, () -> x.insert(-2, 0, 0));
        dueThrow(x, "insert(130, 21, 4)", NoSuchElementException.class, () -> x.insert(130, 21, 4));
        dueThrow(x, "insert(0, 0, 4)", IllegalArgumentException.class, () -> x.insert(0, 0, 4));
        dueThrow(x, "insert(0, 21, 4)", IllegalArgumentException.class, () -> x.insert(0, 21, 4));
        dueThrow(x, "insert(0, max, 4)", IllegalArgumentException.class, () -> x.insert(0, Integer.MAX_VALUE, 4));
        dueThrow(x, "insert(0, 1, 0)", IllegalArgumentException.class, () -> x.insert(0, 1, 0));
        dueThrow(x, "insert(0, 1, 13)", IllegalArgumentException.class, () -> x.insert(0, 1, 13));
        CHECK.due("insert to 149", x.insert(NONE, 19, 4), 130);
        dueThrow(x, "insert to 151", IllegalStateException.class, () -> x.insert(5, 2, 4));
        dueThrow(x, "insert of none", IllegalArgumentException.class, () -> x.insert(5, 0, 4));
        CHECK.due("insert to 150", x.insert(129, 1, 4), 149);
        dueThrow(x, "insert to 151", IllegalStateException.class, () -> x.insert(NONE, 1, 4));
        CHECK.due("undo", x.undo(), 1);
        CHECK.due("insert to 150", x.insert(129, 1, 4), 150);
    }

    private static void erase() {
        ScoreParts x = Check.loaded("bars 3; mark 2; cut 1 3; part a play 3;");
        x.insert(1, 3, 4);
        x.setBar(5, 2, 9);
        x.setContent(0, 5, 2);
        CHECK.due("erase(4)", x.erase(4), 5);
        CHECK.due("ids", ids(x), "0 1 3 5 2");
        CHECK.due("label", x.bar(5, 1), 2002);
        CHECK.due("beats", x.bar(5, 2), 9);
        CHECK.due("content", x.content(0, 5), 2);
        CHECK.due("content", x.content(0, 2), 1);
        CHECK.dueThrow("bar(4, 0)", NoSuchElementException.class, () -> x.bar(4, 0));
        CHECK.due("erase(3)", x.erase(3), 4);
        CHECK.due("erase(5)", x.erase(5), 3);
        CHECK.due("undoCount", x.undoCount(), 6);
        CHECK.due("insert", x.insert(2, 1, 4), 6);
        CHECK.due("erase the last bar", x.erase(6), 3);
    }

    private static void eraseWrong() {
        ScoreParts x = Check.loaded("bars 3; part a;");
        x.insert(1, 3, 4);
        dueThrow(x, "erase(0), original", IllegalStateException.class, () -> x.erase(0));
        dueThrow(x, "erase(6)", NoSuchElementException.class, () -> x.erase(6));
        dueThrow(x, "erase(-1)", NoSuchElementException.class, () -> x.erase(-1));
        x.putMark(1, 3);
        dueThrow(x, "erase(3), with a mark", IllegalStateException.class, () -> x.erase(3));
        x.makeCut(3, 5);
        dueThrow(x, "erase(5), the last bar of a cut", IllegalStateException.class, () -> x.erase(5));
        x.removeMark(1);
        dueThrow(x, "erase(3), the first bar of a cut", IllegalStateException.class, () -> x.erase(3));
        CHECK.due("erase(4) within a cut", x.erase(4), 5);
        x.openCut(0);
        CHECK.due("erase(3)", x.erase(3), 4);
        x.renumber();
        dueThrow(x, "erase(5), original now", IllegalStateException.class, () -> x.erase(5));
    }

    private static void makeCut() {
        ScoreParts x = Check.loaded("bars 9; cut 1 1; cut 2 2; cut 3 3;");
        CHECK.due("makeCut", x.makeCut(3, 3), 3);
        x.openCut(1);
        x.openCut(0);
        CHECK.due("the least number", x.makeCut(5, 8), 0);
        CHECK.due("cuts", x.cuts(), 13);
        CHECK.due("first", x.cut(0, false), 5);
        CHECK.due("last", x.cut(0, true), 8);
        CHECK.due("the next one", x.makeCut(0, 0), 1);
        CHECK.due("played", x.played(), 2);
        CHECK.due("the same bars again", x.makeCut(0, 0), 4);
        CHECK.due("undoCount", x.undoCount(), 6);
        x.insert(NONE, 1, 4);
        CHECK.due("order of the score", x.makeCut(9, 0), 5);
    }

    private static void makeCutWrong() {
        ScoreParts x = Check.loaded("bars 9; part a;");
        dueThrow(x, "makeCut(5, 4)", IllegalArgumentException.class, () -> x.makeCut(5, 4));
        dueThrow(x, "makeCut(9, 0)", NoSuchElementException.class, () -> x.makeCut(9, 0));
        dueThrow(x, "makeCut(0, -1)", NoSuchElementException.class, () -> x.makeCut(0, -1));
        x.insert(NONE, 1, 4);
        dueThrow(x, "makeCut(0, 9)", IllegalArgumentException.class, () -> x.makeCut(0, 9));
        for (int cut = 0; cut < 10; cut++) {
            CHECK.due("makeCut", x.makeCut(0, 8), cut);
        }
        dueThrow(x, "an 11th cut", IllegalStateException.class, () -> x.makeCut(0, 8));
        dueThrow(x, "an 11th cut, behind", IllegalArgumentException.class, () -> x.makeCut(8, 0));
        dueThrow(x, "an 11th cut, no bar", NoSuchElementException.class, () -> x.makeCut(8, 10));
        x.openCut(7);
        CHECK.due("makeCut", x.makeCut(1, 2), 7);
    }

    private static void openCut() {
        ScoreParts x = Check.loaded("bars 9; cut 1 5; cut 4 7;");
        CHECK.due("openCut(0)", x.openCut(0), 5);
        CHECK.due("cuts", x.cuts(), 2);
        dueThrow(x, "openCut(0)", NoSuchElementException.class, () -> x.openCut(0));
        dueThrow(x, "openCut(10)", NoSuchElementException.class, () -> x.openCut(10));
        dueThrow(x, "openCut(-1)", NoSuchElementException.class, () -> x.openCut(-1));
        CHECK.due("openCut(1)", x.openCut(1), 9);
        CHECK.due("undoCount", x.undoCount(), 2);
    }

    private static void putMark() {
        ScoreParts x = Check.loaded("bars 9; mark 3;");
        CHECK.due("putMark(40, 0)", x.putMark(40, 0), NONE);
        CHECK.due("marks", x.marks(), 2);
        CHECK.due("letter", x.bar(0, 8), 40);
        CHECK.due("putMark(40, 5)", x.putMark(40, 5), 0);
        CHECK.due("marks", x.marks(), 2);
        CHECK.due("letter", x.bar(0, 8), 0);
        CHECK.due("letter", x.bar(5, 8), 40);
        CHECK.due("putMark where it sits", x.putMark(40, 5), 5);
        CHECK.due("undoCount", x.undoCount(), 3);
        CHECK.due("putMark(1, 8)", x.putMark(1, 8), 2);
    }

    private static void putMarkWrong() {
        ScoreParts x = Check.loaded("bars 30; mark 3; mark 5; part a;");
        dueThrow(x, "putMark(0, 30)", NoSuchElementException.class, () -> x.putMark(0, 30));
        dueThrow(x, "putMark(1, -1)", NoSuchElementException.class, () -> x.putMark(1, -1));
        dueThrow(x, "putMark(0, 2)", IllegalArgumentException.class, () -> x.putMark(0, 2));
        dueThrow(x, "putMark(41, 0)", IllegalArgumentException.class, () -> x.putMark(41, 0));
        dueThrow(x, "putMark(-1, 0)", IllegalArgumentException.class, () -> x.putMark(-1, 0));
        dueThrow(x, "putMark(3, 2)", IllegalStateException.class, () -> x.putMark(3, 2));
        dueThrow(x, "putMark(2, 2)", IllegalStateException.class, () -> x.putMark(2, 2));
        for (int letter = 3; letter <= 20; letter++) {
            CHECK.due("putMark", x.putMark(letter, letter + 5), NONE);
        }
        CHECK.due("marks", x.marks(), 20);
        dueThrow(x, "a 21st mark", IllegalStateException.class, () -> x.putMark(21, 0));
        dueThrow(x, "a 21st mark, range", IllegalArgumentException.class, () -> x.putMark(41, 0));
        CHECK.due("moving one of 20", x.putMark(20, 0), 25);
        x.removeMark(20);
        CHECK.due("a 20th mark", x.putMark(21, 0), NONE);
    }

    private static void removeMark() {
        ScoreParts x = Check.loaded("bars 9; mark 3; mark 5;");
        CHECK.due("removeMark(1)", x.removeMark(1), 1);
        CHECK.due("marks", x.marks(), 1);
        CHECK.due("letter", x.bar(2, 7), 0);
        CHECK.due("undoCount", x.undoCount(), 1);
        for (int letter : new int[] {1, 0, 41, -1, Integer.MAX_VALUE, Integer.MIN_VALUE}) {
            dueThrow(x, "removeMark(" + letter + ")", NoSuchElementException.class, () -> x.removeMark(letter));
        }
        CHECK.due("removeMark(2)", x.removeMark(2), 0);
    }

    private static void reletter() {
        ScoreParts x = Check.loaded("bars 9; mark 7; mark 2; mark 5; cut 1 4;");
        x.putMark(30, 0);
        CHECK.due("reletter", x.reletter(), 2);
        CHECK.due("marks", x.marks(), 4);
        int[] due = {1, 2, 0, 0, 3, 0, 4, 0, 0};
        for (int bar = 0; bar < due.length; bar++) {
            CHECK.due("letter on " + bar, x.bar(bar, 8), due[bar]);
        }
        CHECK.dueThrow("mark(30, 0)", NoSuchElementException.class, () -> x.mark(30, 0));
        CHECK.due("reletter again", x.reletter(), 0);
        CHECK.due("it is a change still", x.undo(), 2);
        x.undo();
        CHECK.due("mark(30, 0)", x.mark(30, 0), 0);
        CHECK.due("mark(1, 0)", x.mark(1, 0), 6);
    }

    private static void renumber() {
        ScoreParts x = Check.loaded("bars 3;");
        CHECK.due("renumber", x.renumber(), 0);
        CHECK.due("undoCount", x.undoCount(), 1);
        x.insert(1, 2, 4);
        CHECK.due("renumber", x.renumber(), 3);
        for (int place = 0; place < 5; place++) {
            CHECK.due("label", x.bar(x.barAt(place), 1), 1000 * (place + 1));
            CHECK.due("inserted", x.bar(x.barAt(place), 3), 0);
        }
        x.undo();
        CHECK.due("label", x.bar(4, 1), 2002);
        CHECK.due("inserted", x.bar(4, 3), 1);
        x.insert(NONE, 1, 4);
        CHECK.due("renumber", x.renumber(), 6);
    }

    private static void setBar() {
        ScoreParts x = Check.loaded("bars 3; part a;");
        CHECK.due("setBar(1, 2, 12)", x.setBar(1, 2, 12), 4);
        CHECK.due("setBar(1, 2, 1)", x.setBar(1, 2, 1), 12);
        CHECK.due("beats", x.bar(1, 2), 1);
        CHECK.due("setBar(1, 4, 1)", x.setBar(1, 4, 1), 0);
        CHECK.due("text", x.bar(1, 4), 1);
        CHECK.due("double", x.bar(1, 5), 0);
        CHECK.due("setBar(1, 4, 0)", x.setBar(1, 4, 0), 1);
        CHECK.due("setBar(1, 5, 1)", x.setBar(1, 5, 1), 0);
        CHECK.due("double", x.bar(1, 5), 1);
        CHECK.due("text", x.bar(1, 4), 0);
        CHECK.due("the same value", x.setBar(1, 5, 1), 1);
        CHECK.due("undoCount", x.undoCount(), 6);
        for (int what : new int[] {-1, 0, 1, 3, 6, 7, 8, 9}) {
            dueThrow(x, "setBar(1, " + what + ", 1)", IllegalArgumentException.class, () -> x.setBar(1, what, 1));
        }
        for (int value : new int[] {-1, 13, 2}) {
            dueThrow(x, "setBar(1, 4, " + value + ")", IllegalArgumentException.class, () -> x.setBar(1, 4, value));
            dueThrow(x, "setBar(1, 5, " + value + ")", IllegalArgumentException.class, () -> x.setBar(1, 5, value));
        }
        dueThrow(x, "setBar(1, 2, 0)", IllegalArgumentException.class, () -> x.setBar(1, 2, 0));
        dueThrow(x, "setBar(1, 2, 13)", IllegalArgumentException.class, () -> x.setBar(1, 2, 13));
        dueThrow(x, "setBar(3, 3, 0)", NoSuchElementException.class, () -> x.setBar(3, 3, 0));
        dueThrow(x, "setBar(-1, 2, 1)", NoSuchElementException.class, () -> x.setBar(-1, 2, 1));
    }

    /** They are changes, too, as they do not throw. */
    private static void changesWithoutEffect() {
        ScoreParts x = new ScoreParts();
        CHECK.due("reletter without marks", x.reletter(), 0);
        CHECK.due("renumber without bars", x.renumber(), 0);
        CHECK.due("undoCount", x.undoCount(), 2);
        Check.load(x, "bars 3; mark 2; part a play 1;");
        CHECK.due("reletter", x.reletter(), 0);
        CHECK.due("renumber", x.renumber(), 0);
        CHECK.due("setBar", x.setBar(0, 2, 4), 4);
        CHECK.due("setBar", x.setBar(0, 4, 0), 0);
        CHECK.due("setContent", x.setContent(0, 0, 1), 1);
        CHECK.due("putMark", x.putMark(1, 1), 1);
        CHECK.due("undoCount", x.undoCount(), 6);
        CHECK.due("print", x.print(0), 2);
        CHECK.due("print again", x.print(0), 2);
        CHECK.due("undoCount", x.undoCount(), 8);
    }

    private static void setContent() {
        ScoreParts x = Check.loaded("bars 3; part a; part b cue 1;");
        CHECK.due("setContent(0, 2, 1)", x.setContent(0, 2, 1), 0);
        CHECK.due("setContent(0, 2, 2)", x.setContent(0, 2, 2), 1);
        CHECK.due("setContent(1, 0, 0)", x.setContent(1, 0, 0), 2);
        CHECK.due("content", x.content(0, 2), 2);
        CHECK.due("content of the other part", x.content(1, 2), 0);
        CHECK.due("items", x.items(0), 2);
        CHECK.due("undoCount", x.undoCount(), 3);
        dueThrow(x, "setContent(0, 0, 3)", IllegalArgumentException.class, () -> x.setContent(0, 0, 3));
        dueThrow(x, "setContent(0, 0, -1)", IllegalArgumentException.class, () -> x.setContent(0, 0, -1));
        dueThrow(x, "setContent(0, 3, 3)", NoSuchElementException.class, () -> x.setContent(0, 3, 3));
        dueThrow(x, "setContent(0, -1, 0)", NoSuchElementException.class, () -> x.setContent(0, -1, 0));
        dueThrow(x, "setContent(2, 0, 3)", NoSuchElementException.class, () -> x.setContent(2, 0, 3));
    }
}
