import java.util.NoSuchElementException;

/**
 * Promise by promise, every exception that it lists, alone and where several apply (the one that is listed first is
 * thrown then), on a score at the limits of the document; and a call that throws changes nothing.
 */
public final class ThrowsTest {
    private static final Check CHECK = new Check();
    private static final int NONE = ScoreParts.NONE;
    private static final int MIN = Integer.MIN_VALUE;
    private static final int MAX = Integer.MAX_VALUE;

    private static final Class<NoSuchElementException> NO_SUCH = NoSuchElementException.class;
    private static final Class<IllegalArgumentException> ARGUMENT = IllegalArgumentException.class;
    private static final Class<IllegalStateException> STATE = IllegalStateException.class;
    private static final Class<IndexOutOfBoundsException> INDEX = IndexOutOfBoundsException.class;

    // In the full score, 149 was erased, 151 was undone, and 152 was never given; 150 is the first bar.
    private static final int[] NO_BARS = {MIN, -2, 149, 151, 152, MAX};
    private static final int[] NO_PARTS = {MIN, -1, 6, MAX};
    private static final int[] NO_CUTS = {MIN, -1, 10, 32, MAX};
    private static final int[] NO_LETTERS = {MIN, -1, 0, 41, MAX};
    private static final int CUT_BAR = 4;
    private static final int PLAYED_BAR = 60;
    private static final int NOT_PRINTED = 3;

    private static ScoreParts x = null;

    public static void main(String[] args) {
        emptyObject();
        x = full();
        input();
        bars();
        cuts();
        letters();
        parts();
        partsAndBars();
        items();
        prints();
        insert();
        insertAtTheLimit();
        erase();
        makeCut();
        putMark();
        setBar();
        setContent();
        output();
        undo();
        CHECK.due("the buffer stays", x.feed(0, 0, 0, 0, 0), 40);
        feedBeyondTheLimit();
        loadThatThrows();
        CHECK.finish();
    }

    private static void due(String call, Class<? extends RuntimeException> want, Check.Call run) {
        String before = Check.everything(x);
        CHECK.dueThrow(call, want, run);
        CHECK.due("everything behind " + call, Check.everything(x), before);
    }

    /** 150 bars, 20 marks, 10 cuts and 6 parts, 10 changes to undo, an output, an error, and 20 bytes of input. */
    private static ScoreParts full() {
        ScoreParts made = Check.loaded("bars 99;bars 31 3;text 50;double 70;cut 3 8;cut 5 5;cut 8 11;part a play 99;"
                + "part b rest 9 play 20 cue 3;part c cue 40;part d;part e;part f play 99 cue 31;");
        made.insert(129, 20, 5);
        made.erase(149);
        made.insert(NONE, 1, 5);
        made.erase(148);
        made.insert(147, 1, 5);
        made.undo();
        made.undo();
        for (int letter = 21; letter <= 40; letter++) {
            made.putMark(letter, letter == 40 ? 140 : letter);
        }
        for (int cut = 3; cut < 9; cut++) {
            made.makeCut(cut, cut);
        }
        made.makeCut(131, 133);
        made.print(0);
        made.print(5);
        made.writePart(1);
        Check.feed(made, "bars 7#");
        CHECK.dueThrow("load", STATE, () -> made.load(7));
        Check.feed(made, "bars 7;");
        CHECK.due("bars", made.bars(), 150);
        CHECK.due("marks", made.marks(), 20);
        CHECK.due("cuts", made.cuts(), 1023);
        CHECK.due("undoCount", made.undoCount(), 10);
        return made;
    }

    private static void emptyObject() {
        x = new ScoreParts();
        due("barAt(0)", NO_SUCH, () -> x.barAt(0));
        due("bar(0, 0)", NO_SUCH, () -> x.bar(0, 0));
        due("labelled(0)", NO_SUCH, () -> x.labelled(0));
        due("cut(0, true)", NO_SUCH, () -> x.cut(0, true));
        due("hiddenBy(0)", NO_SUCH, () -> x.hiddenBy(0));
        due("mark(1, 0)", NO_SUCH, () -> x.mark(1, 0));
        due("from(1, 0)", NO_SUCH, () -> x.from(1, 0));
        due("called(0)", NO_SUCH, () -> x.called(0));
        due("reason(0)", NO_SUCH, () -> x.reason(0));
        due("sounding(0)", NO_SUCH, () -> x.sounding(0));
        due("items(0)", NO_SUCH, () -> x.items(0));
        due("isPrinted(0)", NO_SUCH, () -> x.isPrinted(0));
        due("insert(0, 1, 4)", NO_SUCH, () -> x.insert(0, 1, 4));
        due("insert(NONE, 0, 4)", ARGUMENT, () -> x.insert(NONE, 0, 4));
        due("erase(0)", NO_SUCH, () -> x.erase(0));
        due("makeCut(0, 0)", NO_SUCH, () -> x.makeCut(0, 0));
        due("makeCut(NONE, NONE)", NO_SUCH, () -> x.makeCut(NONE, NONE));
        due("openCut(0)", NO_SUCH, () -> x.openCut(0));
        due("putMark(1, 0)", NO_SUCH, () -> x.putMark(1, 0));
        due("removeMark(1)", NO_SUCH, () -> x.removeMark(1));
        due("setBar(0, 2, 4)", NO_SUCH, () -> x.setBar(0, 2, 4));
        due("setContent(0, 0, 0)", NO_SUCH, () -> x.setContent(0, 0, 0));
        due("print(0)", NO_SUCH, () -> x.print(0));
        due("undo", STATE, x::undo);
        due("writePart(0)", NO_SUCH, () -> x.writePart(0));
        due("outputByte(0)", INDEX, () -> x.outputByte(0));
        CHECK.due("misled(1)", x.misled(1), 0);
        CHECK.due("insert", x.insert(NONE, 1, 4), 0);
    }

    // ---- promises 2 and 3

    private static void input() {
        for (int length : new int[] {MIN, -1, 21, 801, MAX}) {
            due("load(" + length + ")", ARGUMENT, () -> x.load(length));
        }
    }

    private static void feedBeyondTheLimit() {
        x = new ScoreParts();
        Check.feed(x, "bars 1;".repeat(100) + " ".repeat(93) + "bars 1;");
        due("feed beyond 800", STATE, () -> x.feed(0x3b3b3b3b, 0x3b3b3b3b, 0x3b3b3b3b, 0x3b3b3b3b, 0x3b3b3b3b));
        due("load(801)", ARGUMENT, () -> x.load(801));
        CHECK.due("load(800)", x.load(800), 101);
    }

    private static void loadThatThrows() {
        x = Check.loaded("bars 3;part a;");
        Check.feed(x, "#");
        due("load(21) of a wrong text", ARGUMENT, () -> x.load(21));
        due("load(-1) of a wrong text", ARGUMENT, () -> x.load(-1));
        String before = Check.state(x);
        CHECK.dueThrow("load(20) of a wrong text", STATE, () -> x.load(20));
        CHECK.due("state", Check.state(x), before);
        CHECK.due("errorCode", x.errorCode(), 1);
        CHECK.due("errorPosition", x.errorPosition(), 0);
        due("load(1) of the emptied buffer", ARGUMENT, () -> x.load(1));
        CHECK.due("feed", x.feed(0x62617273, 0x20393b20, 0x20202020, 0x20202020, 0x20202020), 20);
        due("load(21)", ARGUMENT, () -> x.load(21));
        CHECK.due("load(0) empties the buffer, too", x.load(0), 0);
        due("load(1)", ARGUMENT, () -> x.load(1));
    }

    // ---- promises 7 to 18

    private static void bars() {
        for (int place : new int[] {MIN, -1, 150, MAX}) {
            due("barAt(" + place + ")", NO_SUCH, () -> x.barAt(place));
        }
        for (int bar : NO_BARS) {
            due("bar(" + bar + ", 0)", NO_SUCH, () -> x.bar(bar, 0));
            due("bar(" + bar + ", 9)", NO_SUCH, () -> x.bar(bar, 9));
            due("called(" + bar + ")", NO_SUCH, () -> x.called(bar));
            due("reason(" + bar + ")", NO_SUCH, () -> x.reason(bar));
            due("sounding(" + bar + ")", NO_SUCH, () -> x.sounding(bar));
        }
        due("bar(NONE, 0)", NO_SUCH, () -> x.bar(NONE, 0));
        for (int what : new int[] {MIN, -1, 9, MAX}) {
            due("bar(0, " + what + ")", ARGUMENT, () -> x.bar(0, what));
        }
        for (int label : new int[] {MIN, -1000, -1, 0, 2, 999, 1001, 130020, 131000, MAX}) {
            due("labelled(" + label + ")", NO_SUCH, () -> x.labelled(label));
        }
        due("called(" + CUT_BAR + ")", STATE, () -> x.called(CUT_BAR));
        due("reason(" + CUT_BAR + ")", STATE, () -> x.reason(CUT_BAR));
    }

    private static void cuts() {
        for (int cut : NO_CUTS) {
            due("cut(" + cut + ", false)", NO_SUCH, () -> x.cut(cut, false));
            due("cut(" + cut + ", true)", NO_SUCH, () -> x.cut(cut, true));
            due("hiddenBy(" + cut + ")", NO_SUCH, () -> x.hiddenBy(cut));
            due("openCut(" + cut + ")", NO_SUCH, () -> x.openCut(cut));
        }
    }

    private static void letters() {
        for (int letter : new int[] {MIN, -1, 0, 20, 41, MAX}) {
            due("mark(" + letter + ", 0)", NO_SUCH, () -> x.mark(letter, 0));
            due("mark(" + letter + ", 3)", NO_SUCH, () -> x.mark(letter, 3));
            due("from(" + letter + ", 0)", NO_SUCH, () -> x.from(letter, 0));
            due("removeMark(" + letter + ")", NO_SUCH, () -> x.removeMark(letter));
        }
        for (int what : new int[] {MIN, -1, 3, MAX}) {
            due("mark(21, " + what + ")", ARGUMENT, () -> x.mark(21, what));
        }
        for (int bars : new int[] {MIN, -1000, 1000, MAX}) {
            due("from(21, " + bars + ")", NO_SUCH, () -> x.from(21, bars));
        }
        for (int letter : NO_LETTERS) {
            due("misled(" + letter + ")", ARGUMENT, () -> x.misled(letter));
        }
    }

    // ---- promises 20 to 30, 41, 42 and 45

    private static void parts() {
        for (int part : NO_PARTS) {
            due("items(" + part + ")", NO_SUCH, () -> x.items(part));
            due("longestRest(" + part + ")", NO_SUCH, () -> x.longestRest(part));
            due("isPrinted(" + part + ")", NO_SUCH, () -> x.isPrinted(part));
            due("errata(" + part + ")", NO_SUCH, () -> x.errata(part));
            due("print(" + part + ")", NO_SUCH, () -> x.print(part));
            due("writePart(" + part + ")", NO_SUCH, () -> x.writePart(part));
        }
    }

    private static void partsAndBars() {
        for (int part : NO_PARTS) {
            for (int bar : new int[] {PLAYED_BAR, CUT_BAR, 149}) {
                due("content(" + part + ", " + bar + ")", NO_SUCH, () -> x.content(part, bar));
                due("itemOf(" + part + ", " + bar + ")", NO_SUCH, () -> x.itemOf(part, bar));
                due("waiting(" + part + ", " + bar + ")", NO_SUCH, () -> x.waiting(part, bar));
            }
        }
        for (int bar : NO_BARS) {
            due("content(0, " + bar + ")", NO_SUCH, () -> x.content(0, bar));
            due("itemOf(0, " + bar + ")", NO_SUCH, () -> x.itemOf(0, bar));
            due("waiting(0, " + bar + ")", NO_SUCH, () -> x.waiting(0, bar));
        }
        due("itemOf(0, " + CUT_BAR + ")", STATE, () -> x.itemOf(0, CUT_BAR));
        due("waiting(0, " + CUT_BAR + ")", STATE, () -> x.waiting(0, CUT_BAR));
    }

    private static void items() {
        for (int part : NO_PARTS) {
            due("item(" + part + ", 0, 0)", NO_SUCH, () -> x.item(part, 0, 0));
            due("item(" + part + ", 0, 4)", NO_SUCH, () -> x.item(part, 0, 4));
            due("item(" + part + ", -1, 0)", NO_SUCH, () -> x.item(part, -1, 0));
            due("item(" + part + ", -1, 4)", NO_SUCH, () -> x.item(part, -1, 4));
        }
        for (int item : new int[] {MIN, -1, x.items(0), MAX}) {
            due("item(0, " + item + ", 3)", INDEX, () -> x.item(0, item, 3));
            for (int what : new int[] {MIN, -1, 4, MAX}) {
                due("item(0, " + item + ", " + what + ")", ARGUMENT, () -> x.item(0, item, what));
                due("item(0, 0, " + what + ")", ARGUMENT, () -> x.item(0, 0, what));
            }
        }
    }

    private static void prints() {
        for (int part : NO_PARTS) {
            due("erratum(" + part + ", 0, 0)", NO_SUCH, () -> x.erratum(part, 0, 0));
            due("erratum(" + part + ", 0, 3)", NO_SUCH, () -> x.erratum(part, 0, 3));
            due("erratum(" + part + ", -1, 0)", NO_SUCH, () -> x.erratum(part, -1, 0));
            due("erratum(" + part + ", -1, 3)", NO_SUCH, () -> x.erratum(part, -1, 3));
        }
        due("errata, not printed", STATE, () -> x.errata(NOT_PRINTED));
        x.setContent(5, 0, 2);
        CHECK.due("errata", x.errata(5), 1);
        for (int what : new int[] {MIN, -1, 3, MAX}) {
            due("erratum(5, 0, " + what + ")", ARGUMENT, () -> x.erratum(5, 0, what));
            due("erratum(5, 1, " + what + ")", ARGUMENT, () -> x.erratum(5, 1, what));
            due("erratum, not printed, " + what, ARGUMENT, () -> x.erratum(NOT_PRINTED, 0, what));
            due("erratum -1, not printed, " + what, ARGUMENT, () -> x.erratum(NOT_PRINTED, -1, what));
        }
        for (int erratum : new int[] {MIN, -1, 1, MAX}) {
            due("erratum(5, " + erratum + ", 2)", INDEX, () -> x.erratum(5, erratum, 2));
            due("erratum " + erratum + ", not printed", STATE, () -> x.erratum(NOT_PRINTED, erratum, 2));
        }
        due("erratum 0, not printed", STATE, () -> x.erratum(NOT_PRINTED, 0, 0));
        due("erratum 0 of none", INDEX, () -> x.erratum(0, 0, 0));
    }

    // ---- promises 32 to 41

    private static void insert() {
        x.erase(139);
        CHECK.due("bars", x.bars(), 149);
        for (int bar : NO_BARS) {
            due("insert(" + bar + ", 1, 4)", NO_SUCH, () -> x.insert(bar, 1, 4));
            due("insert(" + bar + ", 0, 4)", NO_SUCH, () -> x.insert(bar, 0, 4));
            due("insert(" + bar + ", 1, 13)", NO_SUCH, () -> x.insert(bar, 1, 13));
            due("insert(" + bar + ", 2, 4)", NO_SUCH, () -> x.insert(bar, 2, 4));
            due("insert(" + bar + ", 21, 0)", NO_SUCH, () -> x.insert(bar, 21, 0));
        }
        for (int after : new int[] {NONE, 0, 150}) {
            for (int count : new int[] {MIN, -1, 0, 21, MAX}) {
                due("insert(" + after + ", " + count + ", 4)", ARGUMENT, () -> x.insert(after, count, 4));
            }
            for (int beats : new int[] {MIN, -1, 0, 13, MAX}) {
                due("insert(" + after + ", 1, " + beats + ")", ARGUMENT, () -> x.insert(after, 1, beats));
                due("insert(" + after + ", 2, " + beats + ")", ARGUMENT, () -> x.insert(after, 2, beats));
            }
            due("insert(" + after + ", 2, 12)", STATE, () -> x.insert(after, 2, 12));
            due("insert(" + after + ", 20, 1)", STATE, () -> x.insert(after, 20, 1));
        }
        x.undo();
    }

    private static void insertAtTheLimit() {
        CHECK.due("bars", x.bars(), 150);
        due("insert(149, 1, 4)", NO_SUCH, () -> x.insert(149, 1, 4));
        due("insert(0, 0, 4)", ARGUMENT, () -> x.insert(0, 0, 4));
        due("insert(0, 21, 4)", ARGUMENT, () -> x.insert(0, 21, 4));
        due("insert(0, 1, 0)", ARGUMENT, () -> x.insert(0, 1, 0));
        due("insert(0, 1, 13)", ARGUMENT, () -> x.insert(0, 1, 13));
        due("insert(NONE, 1, 4)", STATE, () -> x.insert(NONE, 1, 4));
        due("insert(150, 1, 4)", STATE, () -> x.insert(150, 1, 4));
    }

    private static void erase() {
        for (int bar : NO_BARS) {
            due("erase(" + bar + ")", NO_SUCH, () -> x.erase(bar));
        }
        due("erase(NONE)", NO_SUCH, () -> x.erase(NONE));
        due("erase(0), original", STATE, () -> x.erase(0));
        due("erase(129), the last original one", STATE, () -> x.erase(129));
        due("erase(21), original and with a mark", STATE, () -> x.erase(21));
        due("erase(140), with a mark", STATE, () -> x.erase(140));
        due("erase(131), the first of a cut", STATE, () -> x.erase(131));
        due("erase(133), the last of a cut", STATE, () -> x.erase(133));
        x.openCut(9);
        CHECK.due("a cut of one bar", x.makeCut(132, 132), 9);
        due("erase(132), the first and last of a cut", STATE, () -> x.erase(132));
        x.undo();
        x.undo();
    }

    private static void makeCut() {
        for (int bar : NO_BARS) {
            due("makeCut(" + bar + ", 0)", NO_SUCH, () -> x.makeCut(bar, 0));
            due("makeCut(0, " + bar + ")", NO_SUCH, () -> x.makeCut(0, bar));
            due("makeCut(" + bar + ", " + bar + ")", NO_SUCH, () -> x.makeCut(bar, bar));
        }
        due("makeCut(NONE, 0)", NO_SUCH, () -> x.makeCut(NONE, 0));
        due("makeCut(1, 0) with 10 cuts", ARGUMENT, () -> x.makeCut(1, 0));
        due("makeCut(0, 0) with 10 cuts", STATE, () -> x.makeCut(0, 0));
        due("makeCut(0, 150) with 10 cuts", ARGUMENT, () -> x.makeCut(0, 150));
        due("makeCut(150, 0) with 10 cuts", STATE, () -> x.makeCut(150, 0));
        x.openCut(2);
        due("makeCut(149, 0) with 9 cuts", NO_SUCH, () -> x.makeCut(149, 0));
        due("makeCut(1, 0) with 9 cuts", ARGUMENT, () -> x.makeCut(1, 0));
        due("makeCut(0, 150): places count, not ids", ARGUMENT, () -> x.makeCut(0, 150));
        x.undo();
    }

    private static void putMark() {
        for (int bar : NO_BARS) {
            due("putMark(40, " + bar + ")", NO_SUCH, () -> x.putMark(40, bar));
            due("putMark(41, " + bar + ")", NO_SUCH, () -> x.putMark(41, bar));
            due("putMark(1, " + bar + ")", NO_SUCH, () -> x.putMark(1, bar));
        }
        due("putMark(40, NONE)", NO_SUCH, () -> x.putMark(40, NONE));
        for (int letter : NO_LETTERS) {
            due("putMark(" + letter + ", 0)", ARGUMENT, () -> x.putMark(letter, 0));
            due("putMark(" + letter + ", 21), taken", ARGUMENT, () -> x.putMark(letter, 21));
        }
        due("putMark(40, 21), taken", STATE, () -> x.putMark(40, 21));
        due("putMark(20, 0), a 21st mark", STATE, () -> x.putMark(20, 0));
        due("putMark(1, 21), taken and a 21st mark", STATE, () -> x.putMark(1, 21));
        x.removeMark(30);
        due("putMark(30, 21), taken, with 19 marks", STATE, () -> x.putMark(30, 21));
        x.undo();
    }

    private static void setBar() {
        for (int bar : NO_BARS) {
            due("setBar(" + bar + ", 2, 4)", NO_SUCH, () -> x.setBar(bar, 2, 4));
            due("setBar(" + bar + ", 3, 4)", NO_SUCH, () -> x.setBar(bar, 3, 4));
            due("setBar(" + bar + ", 2, 0)", NO_SUCH, () -> x.setBar(bar, 2, 0));
        }
        for (int what : new int[] {MIN, -1, 0, 1, 3, 6, 7, 8, 9, MAX}) {
            due("setBar(0, " + what + ", 1)", ARGUMENT, () -> x.setBar(0, what, 1));
            due("setBar(0, " + what + ", 0)", ARGUMENT, () -> x.setBar(0, what, 0));
        }
        for (int value : new int[] {MIN, -1, 13, MAX}) {
            due("setBar(0, 2, " + value + ")", ARGUMENT, () -> x.setBar(0, 2, value));
            due("setBar(0, 4, " + value + ")", ARGUMENT, () -> x.setBar(0, 4, value));
            due("setBar(0, 5, " + value + ")", ARGUMENT, () -> x.setBar(0, 5, value));
        }
        due("setBar(0, 2, 0)", ARGUMENT, () -> x.setBar(0, 2, 0));
        due("setBar(0, 4, 2)", ARGUMENT, () -> x.setBar(0, 4, 2));
        due("setBar(0, 5, 2)", ARGUMENT, () -> x.setBar(0, 5, 2));
    }

    private static void setContent() {
        for (int part : NO_PARTS) {
            due("setContent(" + part + ", 0, 0)", NO_SUCH, () -> x.setContent(part, 0, 0));
            due("setContent(" + part + ", 0, 3)", NO_SUCH, () -> x.setContent(part, 0, 3));
            due("setContent(" + part + ", 149, 3)", NO_SUCH, () -> x.setContent(part, 149, 3));
        }
        for (int bar : NO_BARS) {
            due("setContent(0, " + bar + ", 0)", NO_SUCH, () -> x.setContent(0, bar, 0));
            due("setContent(0, " + bar + ", 3)", NO_SUCH, () -> x.setContent(0, bar, 3));
        }
        for (int value : new int[] {MIN, -1, 3, MAX}) {
            due("setContent(0, 0, " + value + ")", ARGUMENT, () -> x.setContent(0, 0, value));
        }
    }

    // ---- promises 43 and 46

    private static void output() {
        int length = x.writePart(1);
        for (int index : new int[] {MIN, -1, length, MAX}) {
            due("outputByte(" + index + ")", INDEX, () -> x.outputByte(index));
        }
        CHECK.due("the last byte", x.outputByte(length - 1), 10);
    }

    private static void undo() {
        while (x.undoCount() > 0) {
            x.undo();
        }
        due("undo", STATE, x::undo);
        due("undo once more", STATE, x::undo);
    }
}
