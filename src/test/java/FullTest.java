import java.util.NoSuchElementException;

/** Every call at the limits of the document: 150 bars, 20 marks, 10 cuts, 6 parts, all of them printed. */
public final class FullTest {
    private static final Check CHECK = new Check();
    private static final int NONE = ScoreParts.NONE;

    public static void main(String[] args) {
        ScoreParts x = full();
        bars(x);
        letters(x);
        parts(x);
        prints(x);
        changes(x);
        erasedAtTheEnd();
        CHECK.finish();
    }

    private static ScoreParts full() {
        StringBuilder text = new StringBuilder("bars 99;bars 50;");
        for (int part = 0; part < 6; part++) {
            text.append("part ").append((char) ('a' + part)).append(" play 99 play ").append(44 + part).append(';');
        }
        ScoreParts x = Check.loaded(text.toString());
        CHECK.due("insert", x.insert(148, 1, 12), 149);
        for (int letter = 21; letter <= 40; letter++) {
            x.putMark(letter, 109 + letter);
        }
        for (int cut = 0; cut < 10; cut++) {
            x.makeCut(cut, 2 * cut);
        }
        for (int part = 0; part < 6; part++) {
            x.print(part);
        }
        return x;
    }

    private static void bars(ScoreParts x) {
        CHECK.due("bars", x.bars(), 150);
        CHECK.due("played", x.played(), 131);
        CHECK.due("beats", x.beats(), 4 * 130 + 12);
        CHECK.due("cuts", x.cuts(), 1023);
        CHECK.due("hiddenBy(9)", x.hiddenBy(9), 2);
        CHECK.due("label", x.bar(149, 1), 149001);
        CHECK.due("barAt(149)", x.barAt(149), 149);
        CHECK.dueThrow("barAt(150)", NoSuchElementException.class, () -> x.barAt(150));
        CHECK.dueThrow("bar(150, 0)", NoSuchElementException.class, () -> x.bar(150, 0));
        CHECK.dueThrow("labelled(149002)", NoSuchElementException.class, () -> x.labelled(149002));
        CHECK.dueThrow("cut(10, true)", NoSuchElementException.class, () -> x.cut(10, true));
    }

    private static void letters(ScoreParts x) {
        CHECK.due("marks", x.marks(), 20);
        CHECK.due("called(149)", x.called(149), 40000);
        CHECK.due("from(40, -130)", x.from(40, -130), 19);
        CHECK.dueThrow("from(40, -131)", NoSuchElementException.class, () -> x.from(40, -131));
        CHECK.dueThrow("from(40, 1)", NoSuchElementException.class, () -> x.from(40, 1));
        CHECK.dueThrow("mark(20, 0)", NoSuchElementException.class, () -> x.mark(20, 0));
    }

    private static void parts(ScoreParts x) {
        CHECK.due("parts", x.parts(), 6);
        CHECK.due("items", x.items(0), 131);
        CHECK.due("item", x.item(0, 130, 0), 149);
        CHECK.dueThrow("item 131", IndexOutOfBoundsException.class, () -> x.item(0, 131, 0));
        CHECK.due("itemOf", x.itemOf(5, 149), 130000);
        CHECK.due("longestRest", x.longestRest(0), 1);
        CHECK.due("waiting", x.waiting(0, 143), NONE);
        CHECK.due("waiting", x.waiting(0, 130), 0);
        CHECK.due("sounding(147)", x.sounding(147), 32);
        CHECK.due("sounding(149)", x.sounding(149), 0);
        CHECK.due("writePart", x.writePart(5), 1158);
        CHECK.dueThrow("items(6)", NoSuchElementException.class, () -> x.items(6));
        CHECK.dueThrow("print(6)", NoSuchElementException.class, () -> x.print(6));
    }

    private static void prints(ScoreParts x) {
        CHECK.due("misled(20)", x.misled(20), 0);
        CHECK.due("misled(40)", x.misled(40), 0);
        for (int cut = 0; cut < 10; cut++) {
            x.openCut(cut);
        }
        CHECK.due("errata(5)", x.errata(5), 19);
        CHECK.due("erratum", x.erratum(5, 18, 0), 18);
        CHECK.due("print(5)", x.print(5), 150);
        CHECK.due("misled(20), 150 bars noted", x.misled(20), 0);
        x.removeMark(40);
        CHECK.due("misled(40)", x.misled(40), 63);
        CHECK.due("errata(5)", x.errata(5), 1);
        x.undo();
        x.setContent(5, 149, 1);
        CHECK.due("erratum", x.erratum(5, 0, 0), 149);
        CHECK.dueThrow("erratum 1", IndexOutOfBoundsException.class, () -> x.erratum(5, 1, 0));
    }

    private static void changes(ScoreParts x) {
        CHECK.dueThrow("insert", IllegalStateException.class, () -> x.insert(149, 1, 4));
        CHECK.dueThrow("erase(150)", NoSuchElementException.class, () -> x.erase(150));
        CHECK.due("reletter", x.reletter(), 20);
        CHECK.due("mark(20, 0)", x.mark(20, 0), 149);
        CHECK.due("misled(20)", x.misled(20), 63);
        CHECK.due("renumber", x.renumber(), 1);
        CHECK.due("label", x.bar(149, 1), 150000);
        x.undo();
        x.removeMark(20);
        CHECK.due("erase(149)", x.erase(149), 149);
        CHECK.due("undo", x.undo(), 9);
        CHECK.due("bars", x.bars(), 150);
    }

    private static void erasedAtTheEnd() {
        ScoreParts x = Check.loaded("bars 2; part a;");
        x.insert(1, 1, 4);
        x.print(0);
        x.erase(2);
        CHECK.dueThrow("bar(2, 0)", NoSuchElementException.class, () -> x.bar(2, 0));
        CHECK.dueThrow("labelled(2001)", NoSuchElementException.class, () -> x.labelled(2001));
        CHECK.dueThrow("barAt(2)", NoSuchElementException.class, () -> x.barAt(2));
        CHECK.due("errata", Check.errata(x, 0), "2 2 2001");
    }
}
