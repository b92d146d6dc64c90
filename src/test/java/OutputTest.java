import java.util.NoSuchElementException;

/** Promises 45 and 46: writePart, outputByte. */
public final class OutputTest {
    private static final Check CHECK = new Check();
    private static final int NONE = ScoreParts.NONE;

    public static void main(String[] args) {
        lines();
        letters();
        suffixes();
        numbers();
        longestOutput();
        outputStays();
        CHECK.finish();
    }

    private static void lines() {
        ScoreParts x = Check.loaded("bars 8; mark 3; cut 3 4; double 1; part a play 1 rest 3 cue 2; part b;");
        CHECK.due("part 0", Check.written(x, 0), "1 play\n2 rest 1\nA 5 cue\n6 cue\n7 rest 2\n");
        CHECK.due("part 1", Check.written(x, 1), "1 rest 1\n2 rest 1\nA 5 rest 4\n");
        CHECK.due("length", x.writePart(1), 29);
        x.makeCut(0, 7);
        CHECK.due("nothing played", x.writePart(0), 0);
        CHECK.dueThrow("outputByte(0)", IndexOutOfBoundsException.class, () -> x.outputByte(0));
        CHECK.dueThrow("writePart(2)", NoSuchElementException.class, () -> x.writePart(2));
    }

    private static void letters() {
        ScoreParts x = Check.loaded("bars 1; part a;");
        for (int letter = 1; letter <= 40; letter++) {
            x.putMark(letter, 0);
            String sign = String.valueOf((char) ('A' + (letter - 1) % 26));
            CHECK.due("letter " + letter, Check.written(x, 0), (letter > 26 ? sign + sign : sign) + " 1 rest 1\n");
            x.removeMark(letter);
        }
    }

    private static void suffixes() {
        ScoreParts x = Check.loaded("bars 1; part a;");
        x.insert(0, 20, 4);
        x.insert(20, 8, 4);
        x.insert(NONE, 1, 4);
        for (int bar = 0; bar < 30; bar++) {
            x.setContent(0, bar, 1);
        }
        StringBuilder due = new StringBuilder("0a play\n1 play\n");
        for (int suffix = 1; suffix <= 28; suffix++) {
            due.append('1').append((char) ('a' + Math.min(suffix, 26) - 1)).append(" play\n");
        }
        CHECK.due("suffixes", Check.written(x, 0), due.toString());
    }

    private static void numbers() {
        ScoreParts x = Check.loaded("bars 99; bars 51; part a play 9 rest 90 cue 1; text 125;");
        CHECK.due("numbers", Check.written(x, 0), "1 play\n2 play\n3 play\n4 play\n5 play\n6 play\n7 play\n8 play\n9 play\n"
                + "10 rest 90\n100 cue\n101 rest 24\n125 rest 26\n");
        Check.load(x, "bars 99; bars 51; part a;");
        CHECK.due("150 bars", Check.written(x, 0), "1 rest 150\n");
        Check.load(x, "bars 99; bars 51; part a play 1;");
        CHECK.due("149 bars", Check.written(x, 0), "1 play\n2 rest 149\n");
    }

    private static void longestOutput() {
        ScoreParts x = Check.loaded("bars 99; bars 51; part a play 99 play 51;");
        StringBuilder due = new StringBuilder();
        for (int letter = 21; letter <= 40; letter++) {
            x.putMark(letter, 109 + letter);
        }
        for (int number = 1; number <= 150; number++) {
            if (number >= 131) {
                String sign = String.valueOf((char) ('A' + (number - 111) % 26));
                due.append(number > 136 ? sign + sign : sign).append(' ');
            }
            due.append(number).append(" play\n");
        }
        CHECK.due("150 lines", Check.written(x, 0), due.toString());
    }

    private static void outputStays() {
        ScoreParts x = Check.loaded("bars 2; part a cue 2; part b;");
        CHECK.due("writePart(0)", x.writePart(0), 12);
        x.setContent(0, 0, 0);
        x.undo();
        Check.load(x, "bars 1;");
        CHECK.due("outputByte(2)", x.outputByte(2), (int) 'c');
        CHECK.due("outputByte(11)", x.outputByte(11), 10);
        for (int index : new int[] {-1, 12, Integer.MAX_VALUE, Integer.MIN_VALUE}) {
            CHECK.dueThrow("outputByte(" + index + ")", IndexOutOfBoundsException.class, () -> x.outputByte(index));
        }
        CHECK.dueThrow("writePart(0)", NoSuchElementException.class, () -> x.writePart(0));
        CHECK.due("outputByte(11) behind a call that threw", x.outputByte(11), 10);
        Check.load(x, "bars 1; part a;");
        CHECK.due("a shorter output", x.writePart(0), 9);
        CHECK.dueThrow("outputByte(9)", IndexOutOfBoundsException.class, () -> x.outputByte(9));
    }
}
