import java.util.NoSuchElementException;

/** Promises 19 to 27: parts, content, reason, items, item, itemOf, longestRest, waiting, sounding. */
public final class PartsTest {
    private static final Check CHECK = new Check();
    private static final int NONE = ScoreParts.NONE;

    public static void main(String[] args) {
        contents();
        reasonsOneByOne();
        firstPlayedBarHasNone();
        firstReasonThatApplies();
        whatStandsInCutBarsIsNoReason();
        items();
        itemsAcrossContents();
        noItems();
        longestRest();
        waiting();
        sounding();
        noSuchPart();
        CHECK.finish();
    }

    private static void contents() {
        ScoreParts x = Check.loaded("bars 4; part a rest 1 play 1 cue 1; part b cue 4; bars 1; cut 2 2;");
        CHECK.due("parts", x.parts(), 2);
        int[] due = {0, 1, 2, 0, 0};
        for (int bar = 0; bar < due.length; bar++) {
            CHECK.due("content(0, " + bar + ")", x.content(0, bar), due[bar]);
        }
        CHECK.due("content(1, 3)", x.content(1, 3), 2);
        CHECK.due("content(1, 4)", x.content(1, 4), 0);
        x.insert(0, 1, 4);
        CHECK.due("content(0, 5)", x.content(0, 5), 0);
        CHECK.due("content(1, 5)", x.content(1, 5), 0);
        CHECK.due("content(0, 1) behind an inserted bar", x.content(0, 1), 1);
        CHECK.dueThrow("content(0, 6)", NoSuchElementException.class, () -> x.content(0, 6));
        CHECK.dueThrow("content(0, -1)", NoSuchElementException.class, () -> x.content(0, -1));
    }

    private static void dueReasons(ScoreParts x, int... reasons) {
        for (int bar = 0; bar < reasons.length; bar++) {
            CHECK.due("reason(" + bar + ")", x.reason(bar), reasons[bar]);
        }
    }

    private static void reasonsOneByOne() {
        dueReasons(Check.loaded("bars 3; mark 1; text 1; double 3;"), 0, 0, 0);
        dueReasons(Check.loaded("bars 3; mark 2;"), 0, 1, 0);
        dueReasons(Check.loaded("bars 1 3; bars 1 4; bars 1 3;"), 0, 2, 2);
        dueReasons(Check.loaded("bars 3; text 2;"), 0, 3, 0);
        dueReasons(Check.loaded("bars 3; double 2;"), 0, 0, 4);
        ScoreParts x = Check.loaded("bars 5; cut 1 1; cut 3 4;");
        CHECK.due("reason(1)", x.reason(1), 0);
        CHECK.due("reason(4)", x.reason(4), 5);
        CHECK.dueThrow("reason(0)", IllegalStateException.class, () -> x.reason(0));
        CHECK.dueThrow("reason(3)", IllegalStateException.class, () -> x.reason(3));
        CHECK.dueThrow("reason(5)", NoSuchElementException.class, () -> x.reason(5));
        CHECK.dueThrow("reason(-1)", NoSuchElementException.class, () -> x.reason(-1));
    }

    private static void firstPlayedBarHasNone() {
        ScoreParts x = Check.loaded("bars 3; text 1; text 2; double 1; mark 2;");
        CHECK.due("reason(0)", x.reason(0), 0);
        CHECK.due("reason(1)", x.reason(1), 1);
        x.makeCut(0, 0);
        CHECK.due("reason(1), the first played bar now", x.reason(1), 0);
    }

    private static void firstReasonThatApplies() {
        ScoreParts x = Check.loaded("bars 1; bars 1; bars 1 3; mark 3; text 3; double 1; cut 2 2;");
        CHECK.due("letter", x.reason(2), 1);
        x.removeMark(1);
        CHECK.due("beats", x.reason(2), 2);
        x.setBar(2, 2, 4);
        CHECK.due("text", x.reason(2), 3);
        x.setBar(2, 4, 0);
        CHECK.due("double line", x.reason(2), 4);
        x.setBar(0, 5, 0);
        CHECK.due("cut bars", x.reason(2), 5);
        x.openCut(0);
        CHECK.due("none", x.reason(2), 0);
    }

    private static void whatStandsInCutBarsIsNoReason() {
        ScoreParts x = Check.loaded("bars 1; bars 1 3; bars 1; text 2; double 2; cut 2 2;");
        CHECK.due("reason(2)", x.reason(2), 5);
        x.putMark(7, 1);
        CHECK.due("reason(2), the mark moves on", x.reason(2), 1);
    }

    private static void dueItem(ScoreParts x, int part, int item, int... answers) {
        for (int what = 0; what < answers.length; what++) {
            CHECK.due("item(" + part + ", " + item + ", " + what + ")", x.item(part, item, what), answers[what]);
        }
    }

    private static void items() {
        ScoreParts x = Check.loaded("bars 6; bars 4 3; mark 3; cut 8 8; part a; part b play 10;");
        CHECK.due("items(0)", x.items(0), 4);
        dueItem(x, 0, 0, 0, 2, 0, 8);
        dueItem(x, 0, 1, 2, 4, 0, 16);
        dueItem(x, 0, 2, 6, 1, 0, 3);
        dueItem(x, 0, 3, 8, 2, 0, 6);
        CHECK.due("items(1)", x.items(1), 9);
        dueItem(x, 1, 7, 8, 1, 1, 3);
        for (int item : new int[] {4, -1, Integer.MAX_VALUE, Integer.MIN_VALUE}) {
            CHECK.dueThrow("item " + item, IndexOutOfBoundsException.class, () -> x.item(0, item, 0));
            CHECK.dueThrow("item " + item + " of 4", IllegalArgumentException.class, () -> x.item(0, item, 4));
        }
        CHECK.dueThrow("item(0, 0, -1)", IllegalArgumentException.class, () -> x.item(0, 0, -1));
        CHECK.dueThrow("item(2, 9, 9)", NoSuchElementException.class, () -> x.item(2, 9, 9));
        int[] due = {0, 1, 1000, 1001, 1002, 1003, 2000, -1, 3000, 3001};
        for (int bar = 0; bar < due.length; bar++) {
            int asked = bar;
            CHECK.due("itemOf(0, " + bar + ")", Check.outcome(() -> x.itemOf(0, asked)),
                    due[bar] < 0 ? "IllegalStateException" : String.valueOf(due[bar]));
        }
        CHECK.due("itemOf(1, 9)", x.itemOf(1, 9), 8000);
        CHECK.dueThrow("itemOf(0, 10)", NoSuchElementException.class, () -> x.itemOf(0, 10));
        CHECK.dueThrow("itemOf(0, -1)", NoSuchElementException.class, () -> x.itemOf(0, -1));
        CHECK.dueThrow("itemOf(2, 7)", NoSuchElementException.class, () -> x.itemOf(2, 7));
    }

    private static void itemsAcrossContents() {
        ScoreParts x = Check.loaded("bars 8; part a rest 2 play 2 rest 1 cue 2 rest 1;");
        CHECK.due("items", x.items(0), 7);
        dueItem(x, 0, 0, 0, 2, 0, 8);
        dueItem(x, 0, 1, 2, 1, 1, 4);
        dueItem(x, 0, 2, 3, 1, 1, 4);
        dueItem(x, 0, 3, 4, 1, 0, 4);
        dueItem(x, 0, 4, 5, 1, 2, 4);
        dueItem(x, 0, 5, 6, 1, 2, 4);
        dueItem(x, 0, 6, 7, 1, 0, 4);
    }

    private static void noItems() {
        ScoreParts x = Check.loaded("part a;");
        CHECK.due("items of no bars", x.items(0), 0);
        CHECK.dueThrow("item", IndexOutOfBoundsException.class, () -> x.item(0, 0, 0));
        CHECK.due("longestRest", x.longestRest(0), 0);
        x.insert(NONE, 2, 4);
        CHECK.due("items", x.items(0), 1);
        x.makeCut(0, 1);
        CHECK.due("items of no played bars", x.items(0), 0);
        CHECK.due("longestRest", x.longestRest(0), 0);
    }

    private static void longestRest() {
        ScoreParts x = Check.loaded("bars 9; mark 8; part a rest 2 play 1 rest 4 cue 1; part b play 9; part c cue 9;");
        CHECK.due("longestRest(0)", x.longestRest(0), 4);
        CHECK.due("longestRest(1)", x.longestRest(1), 0);
        CHECK.due("longestRest(2)", x.longestRest(2), 0);
        x.setContent(0, 2, 0);
        CHECK.due("longestRest(0)", x.longestRest(0), 7);
        x.setBar(4, 4, 1);
        CHECK.due("longestRest(0), a text", x.longestRest(0), 4);
        x.setContent(0, 7, 0);
        CHECK.due("longestRest(0), a letter", x.longestRest(0), 4);
        x.removeMark(1);
        CHECK.due("longestRest(0)", x.longestRest(0), 5);
    }

    private static void waiting() {
        ScoreParts x = Check.loaded("bars 9; mark 2; cut 3 4; cut 7 7; part a rest 1 cue 1 rest 4 play 1 rest 1 play 1;"
                + "part b play 8;");
        CHECK.due("waiting(0, 0)", x.waiting(0, 0), 5);
        CHECK.due("waiting(0, 1)", x.waiting(0, 1), 4);
        CHECK.due("waiting(0, 7)", x.waiting(0, 7), 1);
        CHECK.due("waiting(0, 8)", x.waiting(0, 8), 0);
        CHECK.due("waiting(1, 7)", x.waiting(1, 7), 0);
        CHECK.due("waiting(1, 8)", x.waiting(1, 8), NONE);
        CHECK.dueThrow("waiting(0, 2)", IllegalStateException.class, () -> x.waiting(0, 2));
        CHECK.dueThrow("waiting(0, 9)", NoSuchElementException.class, () -> x.waiting(0, 9));
        CHECK.dueThrow("waiting(2, 2)", NoSuchElementException.class, () -> x.waiting(2, 2));
        x.makeCut(8, 8);
        CHECK.due("waiting(0, 0), the notes are cut", x.waiting(0, 0), NONE);
    }

    private static void sounding() {
        ScoreParts x = Check.loaded("bars 3; part a play 3; part b rest 1 play 2; part c cue 3; part d rest 2 play 1;"
                + "part e; part f play 1; cut 3 3;");
        CHECK.due("sounding(0)", x.sounding(0), 33);
        CHECK.due("sounding(1)", x.sounding(1), 3);
        CHECK.due("sounding(2), cut", x.sounding(2), 11);
        x.setContent(0, 1, 0);
        CHECK.due("sounding(1)", x.sounding(1), 2);
        x.setContent(1, 1, 2);
        CHECK.due("sounding(1)", x.sounding(1), 0);
        CHECK.dueThrow("sounding(3)", NoSuchElementException.class, () -> x.sounding(3));
        CHECK.dueThrow("sounding(-1)", NoSuchElementException.class, () -> x.sounding(-1));
    }

    private static void noSuchPart() {
        ScoreParts x = Check.loaded("bars 3; part a;");
        for (int part : new int[] {-1, 1, 6, Integer.MAX_VALUE, Integer.MIN_VALUE}) {
            CHECK.dueThrow("content", NoSuchElementException.class, () -> x.content(part, 0));
            CHECK.dueThrow("items", NoSuchElementException.class, () -> x.items(part));
            CHECK.dueThrow("item", NoSuchElementException.class, () -> x.item(part, 0, 0));
            CHECK.dueThrow("itemOf", NoSuchElementException.class, () -> x.itemOf(part, 0));
            CHECK.dueThrow("longestRest", NoSuchElementException.class, () -> x.longestRest(part));
            CHECK.dueThrow("waiting", NoSuchElementException.class, () -> x.waiting(part, 0));
            CHECK.dueThrow("isPrinted", NoSuchElementException.class, () -> x.isPrinted(part));
            CHECK.dueThrow("errata", NoSuchElementException.class, () -> x.errata(part));
            CHECK.dueThrow("erratum", NoSuchElementException.class, () -> x.erratum(part, 0, 3));
            CHECK.dueThrow("setContent", NoSuchElementException.class, () -> x.setContent(part, 0, 0));
            CHECK.dueThrow("print", NoSuchElementException.class, () -> x.print(part));
            CHECK.dueThrow("writePart", NoSuchElementException.class, () -> x.writePart(part));
        }
    }
}
