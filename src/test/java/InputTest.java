import java.nio.charset.StandardCharsets;
import java.util.NoSuchElementException;

/** Promises 1 to 5: a new object, feed, load, errorCode, errorPosition. */
public final class InputTest {
    private static final Check CHECK = new Check();
    private static final int SYNTAX = 1;
    private static final int RANGE = 2;
    private static final int DUPLICATE = 3;
    private static final int LIMIT = 4;

    public static void main(String[] args) {
        newObject();
        feed();
        loadTakesTheFirstBytes();
        loadEndsATokenAtTheLength();
        fullBuffer();
        loadReplacesEverything();
        loadsAreCountedEachForItself();
        loadWithErrorChangesNothingElse();
        rightTexts();
        whatATextTells();
        syntax();
        spacing();
        range();
        rangeOfParts();
        duplicate();
        limit();
        firstErrorWins();
        CHECK.finish();
    }

    private static void newObject() {
        ScoreParts x = new ScoreParts();
        CHECK.due("bars", x.bars(), 0);
        CHECK.due("played", x.played(), 0);
        CHECK.due("beats", x.beats(), 0);
        CHECK.due("parts", x.parts(), 0);
        CHECK.due("marks", x.marks(), 0);
        CHECK.due("cuts", x.cuts(), 0);
        CHECK.due("undoCount", x.undoCount(), 0);
        CHECK.due("errorCode", x.errorCode(), 0);
        CHECK.due("errorPosition", x.errorPosition(), -1);
        CHECK.dueThrow("outputByte(0)", IndexOutOfBoundsException.class, () -> x.outputByte(0));
        CHECK.dueThrow("load(1)", IllegalArgumentException.class, () -> x.load(1));
        CHECK.due("insert", x.insert(ScoreParts.NONE, 1, 4), 0);
    }

    private static void feed() {
        ScoreParts x = new ScoreParts();
        for (int length = 20; length <= 800; length += 20) {
            CHECK.due("feed to " + length, x.feed(0x20202020, 0x20202020, 0x20202020, 0x20202020, 0x20202020), length);
        }
        CHECK.dueThrow("feed beyond 800", IllegalStateException.class, () -> x.feed(0, 0, 0, 0, 0));
        CHECK.dueThrow("feed beyond 800 again", IllegalStateException.class, () -> x.feed(-1, -1, -1, -1, -1));
        CHECK.due("load of 800 spaces", x.load(800), 0);
        CHECK.due("feed after load", x.feed(0x62617273, 0x20372035, 0x3b202020, 0x20202020, 0x2020200a), 20);
        CHECK.due("load of what was fed", x.load(20), 7);
        CHECK.due("beats", x.bar(6, 2), 5);
    }

    private static void loadTakesTheFirstBytes() {
        ScoreParts x = new ScoreParts();
        Check.feed(x, "bars 3;#############");
        CHECK.dueThrow("load(21)", IllegalArgumentException.class, () -> x.load(21));
        CHECK.dueThrow("load(-1)", IllegalArgumentException.class, () -> x.load(-1));
        CHECK.due("errorCode", x.errorCode(), 0);
        CHECK.due("load(7)", x.load(7), 3);
        CHECK.dueThrow("load(1) of the emptied buffer", IllegalArgumentException.class, () -> x.load(1));
        CHECK.due("load(0)", x.load(0), 0);
        Check.feed(x, "bars 3;");
        CHECK.dueThrow("load(5)", IllegalStateException.class, () -> x.load(5));
        CHECK.due("errorPosition", x.errorPosition(), 5);
        CHECK.dueThrow("load(-1)", IllegalArgumentException.class, () -> x.load(-1));
        CHECK.due("errorCode stays", x.errorCode(), SYNTAX);
        CHECK.due("errorPosition stays", x.errorPosition(), 5);
        CHECK.due("feed after an error", x.feed(0, 0, 0, 0, 0), 20);
    }

    private static void wrongWithin(String text, int length, int position) {
        ScoreParts x = new ScoreParts();
        Check.feed(x, text);
        CHECK.dueThrow("load(" + length + ") of " + text, IllegalStateException.class, () -> x.load(length));
        CHECK.due("errorCode", x.errorCode(), SYNTAX);
        CHECK.due("errorPosition", x.errorPosition(), position);
    }

    private static void loadEndsATokenAtTheLength() {
        wrongWithin("bars 12;", 6, 6);
        wrongWithin("bars 00012;", 9, 9);
        wrongWithin("part ab;", 6, 6);
        wrongWithin("bars 5;mark 5;", 10, 7);
        wrongWithin("bars 5 ;", 7, 7);
        ScoreParts x = new ScoreParts();
        Check.feed(x, "bars 5;bars 5;");
        CHECK.due("load(7)", x.load(7), 5);
    }

    private static void fullBuffer() {
        String space = repeat(" ", 787);
        wrong("bars 5;" + space + "text 1", SYNTAX, 800);
        wrong("bars 5;" + space + "part a", SYNTAX, 800);
        wrong("bars 5;" + space + "text  ", SYNTAX, 800);
        right("bars 5;" + space.substring(1) + "text 5;", 5);
    }

    private static void loadsAreCountedEachForItself() {
        String text = "bars 30;" + repeat("cut 1 1;", 6) + "mark 1;part a;part b;part c;part d;";
        ScoreParts x = Check.loaded(text);
        CHECK.due("the same text again", Check.load(x, text), 30);
        CHECK.due("cuts", x.cuts(), 63);
        CHECK.due("marks", x.marks(), 1);
        CHECK.due("parts", x.parts(), 4);
        Check.feed(x, text + "x");
        CHECK.dueThrow("the same text, wrong", IllegalStateException.class, () -> x.load(text.length() + 1));
        CHECK.due("the same text again", Check.load(x, text), 30);
        CHECK.due("cuts", x.cuts(), 63);
    }

    private static void loadReplacesEverything() {
        ScoreParts x = Check.loaded("bars 9 3; mark 2; text 3; double 4; cut 5 6; part a play 9; part b;");
        x.insert(0, 2, 2);
        x.print(0);
        int length = x.writePart(0);
        CHECK.due("load", Check.load(x, "bars 2; part c;"), 2);
        CHECK.due("ids", x.barAt(1), 1);
        CHECK.due("marks", x.marks(), 0);
        CHECK.due("cuts", x.cuts(), 0);
        CHECK.due("parts", x.parts(), 1);
        CHECK.due("content", x.content(0, 1), 0);
        CHECK.due("beats", x.bar(1, 2), 4);
        CHECK.due("isPrinted", x.isPrinted(0), false);
        CHECK.due("undoCount", x.undoCount(), 0);
        CHECK.dueThrow("undo", IllegalStateException.class, x::undo);
        CHECK.due("output stays", x.outputByte(length - 1), 10);
        CHECK.dueThrow("output's length stays", IndexOutOfBoundsException.class, () -> x.outputByte(length));
        CHECK.due("ids begin anew", x.insert(1, 1, 4), 2);
        CHECK.due("load of nothing", x.load(0), 0);
        CHECK.due("parts", x.parts(), 0);
        CHECK.due("ids begin with 0", x.insert(ScoreParts.NONE, 1, 4), 0);
    }

    private static void loadWithErrorChangesNothingElse() {
        ScoreParts x = Check.loaded("bars 9 3; mark 2; text 3; double 4; cut 5 6; part a play 9; part b;");
        x.insert(0, 2, 2);
        x.print(1);
        x.erase(10);
        x.writePart(0);
        String before = Check.state(x);
        Check.feed(x, "bars 1; mark 1; part z play 2;");
        CHECK.dueThrow("load", IllegalStateException.class, () -> x.load(30));
        CHECK.due("state", Check.state(x), before);
        CHECK.due("errorCode", x.errorCode(), RANGE);
        CHECK.due("errorPosition", x.errorPosition(), 28);
        CHECK.dueThrow("the buffer is emptied", IllegalArgumentException.class, () -> x.load(1));
        CHECK.due("undo", x.undo(), 2);
        CHECK.due("ids go on", x.insert(ScoreParts.NONE, 1, 4), 11);
        CHECK.due("load of nothing", x.load(0), 0);
        CHECK.due("errorCode", x.errorCode(), 0);
        CHECK.due("errorPosition", x.errorPosition(), -1);
    }

    private static void right(String text, int bars) {
        ScoreParts x = new ScoreParts();
        Check.feed(x, text);
        CHECK.due("load of " + text, Check.outcome(() -> x.load(text.length())), String.valueOf(bars));
        CHECK.due("errorCode of " + text, x.errorCode(), 0);
        CHECK.due("errorPosition of " + text, x.errorPosition(), -1);
    }

    private static void wrong(String text, int code, int position) {
        ScoreParts x = new ScoreParts();
        Check.feed(x, text);
        CHECK.dueThrow("load of " + text, IllegalStateException.class, () -> x.load(text.length()));
        CHECK.due("errorCode of " + text, x.errorCode(), code);
        CHECK.due("errorPosition of " + text, x.errorPosition(), position);
    }

    private static void rightTexts() {
        right("", 0);
        right(" \n ", 0);
        right("bars 1;", 1);
        right("\n bars\n99\n12\n;\n", 99);
        right("bars 0099 0001;bars 51;", 150);
        right("bars 9;mark 9;text 9;text 9;double 9;double 1;cut 9 9;cut 1 9;", 9);
        right("bars 2;part part;part rest rest 2;part abcdef play 1 cue 1;", 2);
        right("part a;bars 5;part b play 5;", 5);
    }

    private static void whatATextTells() {
        ScoreParts x = Check.loaded("bars 3; bars 4 12; mark 5; part tuba rest 1 play 2 cue 1; mark 2; bars 1 1; text 3;"
                + "double 4; cut 2 3; cut 6 6; part x cue 8;");
        CHECK.due("bars", x.bars(), 8);
        CHECK.due("usual beats", x.bar(2, 2), 4);
        CHECK.due("beats", x.bar(3, 2), 12);
        CHECK.due("beats", x.bar(7, 2), 1);
        CHECK.due("original", x.bar(3, 3), 0);
        CHECK.due("first mark", x.mark(1, 0), 4);
        CHECK.due("second mark", x.mark(2, 0), 1);
        CHECK.due("marks", x.marks(), 2);
        CHECK.due("text", x.bar(2, 4), 1);
        CHECK.due("no text", x.bar(3, 4), 0);
        CHECK.due("double", x.bar(3, 5), 1);
        CHECK.due("no double", x.bar(2, 5), 0);
        CHECK.due("cuts", x.cuts(), 3);
        CHECK.due("first of cut 0", x.cut(0, false), 1);
        CHECK.due("last of cut 0", x.cut(0, true), 2);
        CHECK.due("cut 1", x.cut(1, true), 5);
        int[] contents = {0, 1, 1, 2, 0, 0, 0, 0};
        for (int bar = 0; bar < 8; bar++) {
            CHECK.due("content of " + bar, x.content(0, bar), contents[bar]);
            CHECK.due("content of " + bar, x.content(1, bar), 2);
        }
    }

    private static void syntax() {
        wrong("x;", SYNTAX, 0);
        wrong(";", SYNTAX, 0);
        wrong("bars 1;;", SYNTAX, 7);
        wrong("5;", SYNTAX, 0);
        wrong("bars;", SYNTAX, 4);
        wrong("bars x;", SYNTAX, 5);
        wrong("bars 1 2 3;", SYNTAX, 9);
        wrong("bars 1 x;", SYNTAX, 7);
        wrong("bars 1", SYNTAX, 6);
        wrong("bars 1  ", SYNTAX, 8);
        wrong("bars 1;bars", SYNTAX, 11);
        wrong("bars 1;\nba rs 1;", SYNTAX, 8);
        wrong("bar 1;", SYNTAX, 0);
        wrong("barss 1;", SYNTAX, 0);
        wrong("cars 1;", SYNTAX, 0);
        wrong("bart 1;", SYNTAX, 0);
        wrong("bars 1;dark 1;", SYNTAX, 7);
        wrong("bars 1;next 1;", SYNTAX, 7);
        wrong("bars 1;rouble 1;", SYNTAX, 7);
        wrong("bars 1;put 1 1;", SYNTAX, 7);
        wrong("cart a;", SYNTAX, 0);
        wrong("bars 1;part a best 1;", SYNTAX, 14);
        wrong("bars 1;part a clay 1;", SYNTAX, 14);
        wrong("bars 1;part a due 1;", SYNTAX, 14);
        wrong("Bars 1;", SYNTAX, 0);
        wrong("bars 1;mark;", SYNTAX, 11);
        wrong("bars 1;mark 1 1;", SYNTAX, 14);
        wrong("bars 1;text;", SYNTAX, 11);
        wrong("bars 1;double x;", SYNTAX, 14);
        wrong("bars 1;cut 1;", SYNTAX, 12);
        wrong("bars 1;cut 1 1 1;", SYNTAX, 15);
        wrong("bars 1;cut;", SYNTAX, 10);
        wrong("part;", SYNTAX, 4);
        wrong("part 5;", SYNTAX, 5);
        wrong("part abcdefg;", SYNTAX, 5);
        wrong("part A;", SYNTAX, 5);
        wrong("part aB;", SYNTAX, 6);
        wrong("part a b;", SYNTAX, 7);
        wrong("part a 1;", SYNTAX, 7);
        wrong("bars 1;part a play;", SYNTAX, 18);
        wrong("part a;part rest rest;", SYNTAX, 21);
        wrong("bars 1;part a play 1 1;", SYNTAX, 21);
        wrong("bars 1;part a play 1 notes 1;", SYNTAX, 21);
        wrong("bars 1;part a cue 1", SYNTAX, 19);
        wrong("bars 00001;", SYNTAX, 5);
        wrong("bars 10000;", SYNTAX, 5);
        wrong("bars 99999999999999999999;", SYNTAX, 5);
        wrong("bars 4294967297;", SYNTAX, 5);
        wrong("bars 1;mark 00001;", SYNTAX, 12);
        wrong("bars 1,", SYNTAX, 6);
        wrong("bars -1;", SYNTAX, 5);
        wrong("bars\t1;", SYNTAX, 4);
        wrong("bars 1\r;", SYNTAX, 6);
        wrong("bars 1;`", SYNTAX, 7);
        wrong("bars 1;{", SYNTAX, 7);
        wrong("bars /;", SYNTAX, 5);
        wrong("bars :;", SYNTAX, 5);
        wrong("bars 1; \u00e9", SYNTAX, 8);
        wrong("bars 1; \u00a0", SYNTAX, 8);
        wrong("bars 1; \u0000", SYNTAX, 8);
    }

    private static void spacing() {
        wrong("bars5;", SYNTAX, 4);
        wrong("bars 5mark 1;", SYNTAX, 6);
        wrong("bars 5;part a1;", SYNTAX, 13);
        wrong("bars 5;part a play1;", SYNTAX, 18);
        wrong("bars 5;part a play 1cue 1;", SYNTAX, 20);
        wrong("bars 5;mark 1a;", SYNTAX, 13);
        right("bars 5;mark 1;text 1 ; part a ;\n", 5);
    }

    private static void range() {
        wrong("bars 0;", RANGE, 5);
        wrong("bars 100;", RANGE, 5);
        wrong("bars 9999;", RANGE, 5);
        wrong("bars 99;bars 100;", RANGE, 13);
        wrong("bars 1 0;", RANGE, 7);
        wrong("bars 1 13;", RANGE, 7);
        wrong("mark 1;", RANGE, 5);
        wrong("bars 9;mark 0;", RANGE, 12);
        wrong("bars 9;mark 10;bars 1;", RANGE, 12);
        wrong("text 1;bars 1;", RANGE, 5);
        wrong("bars 9;text 0;", RANGE, 12);
        wrong("bars 9;text 10;", RANGE, 12);
        wrong("bars 9;double 0;", RANGE, 14);
        wrong("bars 9;double 10;", RANGE, 14);
        wrong("cut 1 1;", RANGE, 4);
        wrong("bars 9;cut 10 10;", RANGE, 11);
        wrong("bars 9;cut 0 1;", RANGE, 11);
        wrong("bars 9;cut 1 10;", RANGE, 13);
        wrong("bars 9;cut 1 0;", RANGE, 13);
        wrong("bars 9;cut 5 4;", RANGE, 13);
        right("bars 9;cut 5 5;", 9);
    }

    private static void rangeOfParts() {
        wrong("part a rest 1;", RANGE, 12);
        wrong("bars 9;part a rest 10;", RANGE, 19);
        wrong("bars 9;part a rest 0;", RANGE, 19);
        wrong("bars 9;part a rest 5 play 5;", RANGE, 26);
        wrong("bars 9;part a rest 9 cue 1;", RANGE, 25);
        wrong("bars 99;bars 9;part a rest 100;", RANGE, 27);
        right("bars 99;bars 9;part a rest 99 play 9;", 108);
        for (String word : new String[] {"rest", "play", "cue"}) {
            int at = "bars 99;bars 9;part a ".length() + word.length() + 1;
            wrong("bars 99;bars 9;part a " + word + " 0;", RANGE, at);
            right("bars 99;bars 9;part a " + word + " 1;", 108);
            right("bars 99;bars 9;part a " + word + " 99;", 108);
            wrong("bars 99;bars 9;part a " + word + " 100;", RANGE, at);
            wrong("bars 99;bars 9;part a " + word + " 99 " + word + " 10;", RANGE, at + 4 + word.length());
        }
        // Only the bars that were added before count.
        wrong("part a rest 1;bars 1;", RANGE, 12);
    }

    private static void duplicate() {
        wrong("bars 9;mark 5;mark 5;", DUPLICATE, 19);
        wrong("bars 9;mark 5;mark 4;mark 05;", DUPLICATE, 26);
        wrong("part a;part a;", DUPLICATE, 12);
        wrong("part abcdef;part b;part abcdef;", DUPLICATE, 24);
        right("part a;part aa;part ab;part ba;part aaa;part z;", 0);
        right("bars 2;mark 1;text 1;text 1;cut 1 1;cut 1 1;mark 2;", 2);
    }

    private static String repeat(String text, int times) {
        StringBuilder all = new StringBuilder();
        for (int time = 0; time < times; time++) {
            all.append(text);
        }
        return all.toString();
    }

    private static String marksUpTo(int count) {
        StringBuilder all = new StringBuilder("bars 50;");
        for (int bar = 1; bar <= count; bar++) {
            all.append("mark ").append(bar).append(';');
        }
        return all.toString();
    }

    private static void limit() {
        wrong("bars 99;bars 52;", LIMIT, 13);
        wrong("bars 99;bars 51;bars 1;", LIMIT, 21);
        wrong("bars 99;bars 51;bars 1 13;", LIMIT, 21);
        right("bars 99;bars 51;", 150);
        right("bars 99;bars 51;mark 150;text 150;double 150;cut 150 150;part a rest 99 play 50 cue 1;", 150);
        wrong("bars 99;bars 51;mark 151;", RANGE, 21);
        wrong("bars 99;bars 51;part a rest 99 play 52;", RANGE, 36);
        right(marksUpTo(20), 50);
        wrong(marksUpTo(21), LIMIT, marksUpTo(20).length());
        wrong(marksUpTo(20) + "mark", LIMIT, marksUpTo(20).length());
        String cuts = "bars 9;" + repeat("cut 1 9;", 10);
        right(cuts, 9);
        wrong(cuts + "cut 1 9;", LIMIT, cuts.length());
        wrong(cuts + "cut 0;", LIMIT, cuts.length());
        String parts = "part a;part b;part c;part d;part e;part f;";
        right(parts, 0);
        wrong(parts + "part g;", LIMIT, parts.length());
        wrong(parts + "part a;", LIMIT, parts.length());
    }

    private static void firstErrorWins() {
        wrong("bars 0 x;", RANGE, 5);
        wrong("bars 0#", RANGE, 5);
        wrong("bars 1 13x;", RANGE, 7);
        wrong("# bars 0;", SYNTAX, 0);
        wrong("bars 9;mark 9;mark 9x", DUPLICATE, 19);
        wrong("bars 9;cut 5 4x;", RANGE, 13);
        wrong("part a;part a1;", DUPLICATE, 12);
        ScoreParts x = new ScoreParts();
        Check.feed(x, "bars 4;".getBytes(StandardCharsets.ISO_8859_1));
        x.load(7);
        CHECK.dueThrow("bar 4", NoSuchElementException.class, () -> x.bar(4, 0));
    }
}
