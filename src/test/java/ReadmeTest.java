import java.io.IOException;
import java.nio.file.Files;
import java.nio.file.Path;
import java.util.List;
import java.util.regex.Matcher;
import java.util.regex.Pattern;

/** The examples in README.md: each of their lines stands here, too, and answers the number that the page gives it. */
public final class ReadmeTest {
    private static final Check CHECK = new Check();
    private static final Pattern ANSWER = Pattern.compile("int (\\w+) = .*; *// (\\d+).*");

    /** Takes the directory of the project; without it, the examples run, but are not compared with the page. */
    public static void main(String[] args) throws IOException {
        ScoreParts score = example();
        wrongText(score);
        if (args.length > 0) {
            everyLineStandsHere(Path.of(args[0]));
        }
        CHECK.finish();
    }

    static int load(ScoreParts score, String text) {
        for (int at = 0; at < text.length(); at += 20) {
            score.feed(four(text, at), four(text, at + 4), four(text, at + 8), four(text, at + 12), four(text, at + 16));
        }
        return score.load(text.length());
    }

    static int four(String text, int at) {
        int bytes = 0;
        for (int index = at; index < at + 4; index++) {
            bytes = bytes << 8 | (index < text.length() ? text.charAt(index) : ' ');
        }
        return bytes;
    }

    private static ScoreParts example() {
        ScoreParts score = new ScoreParts();
        int bars = load(score, "bars 8; mark 5; cut 3 4; part horn play 2 rest 6; part tuba;");
        CHECK.due("bars", bars, 8);
        int played = score.played();
        CHECK.due("played", played, 6);
        int items = score.print(0);
        CHECK.due("items", items, 3);
        int second = score.barAt(1);
        CHECK.due("second", second, 1);
        int added = score.insert(second, 2, 3);
        CHECK.due("added", added, 8);
        int label = score.bar(added, 1);
        CHECK.due("label", label, 2001);
        int errata = score.errata(0);
        CHECK.due("errata", errata, 2);
        int kind = score.erratum(0, 0, 1);
        CHECK.due("kind", kind, 1);
        int length = score.writePart(0);
        CHECK.due("length", length, 35);
        StringBuilder part = new StringBuilder();
        for (int index = 0; index < length; index++) {
            part.append((char) score.outputByte(index));
        }
        CHECK.due("part", part.toString(), "1 play\n2 play\n2a rest 2\nA 5 rest 4\n");
        int left = score.undo();
        CHECK.due("left", left, 1);
        int barsThen = score.bars();
        CHECK.due("barsThen", barsThen, 8);
        return score;
    }

    private static void wrongText(ScoreParts score) {
        boolean isCaught = false;
        try {
            load(score, "bars 8; mark 9;");
        } catch (IllegalStateException e) {
            int code = score.errorCode();
            int position = score.errorPosition();
            CHECK.due("code", code, 2);
            CHECK.due("position", position, 13);
            isCaught = true;
        }
        CHECK.due("the wrong text is refused", isCaught, true);
    }

    private static void everyLineStandsHere(Path project) throws IOException {
        List<String> own = Files.readAllLines(project.resolve("src/test/java/ReadmeTest.java"));
        own.replaceAll(String::trim);
        boolean isExample = false;
        int compared = 0;
        for (String line : Files.readAllLines(project.resolve("README.md"))) {
            if (line.startsWith("```")) {
                isExample = line.equals("```java");
            } else if (isExample) {
                String code = line.replaceAll("//.*", "").trim();
                CHECK.due("README's line stands in ReadmeTest: " + code, code.isEmpty() || own.contains(code), true);
                Matcher answer = ANSWER.matcher(line.trim());
                if (answer.matches()) {
                    String name = answer.group(1);
                    String due = "CHECK.due(\"" + name + "\", " + name + ", " + answer.group(2) + ");";
                    CHECK.due("README's answer stands in ReadmeTest: " + due, own.contains(due), true);
                    compared++;
                }
            }
        }
        CHECK.due("answers in README", compared, 13);
    }
}
