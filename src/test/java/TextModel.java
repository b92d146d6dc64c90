import java.util.ArrayList;
import java.util.HashSet;
import java.util.List;
import java.util.Set;
import java.util.regex.Matcher;
import java.util.regex.Pattern;

/**
 * Section 5 of the document, TEXT, once more, by other means than the class has: each token is one sign, and the
 * grammar a pattern over these signs. What such a pattern can't tell is looked for before the first syntax error.
 */
final class TextModel {
    private static final Pattern TOKEN = Pattern.compile("[a-z]+|[0-9]+|[^ \\n]");
    private static final Pattern GRAMMAR = Pattern.compile("(bnn?;|[mtd]n;|cnn;|p[bmtdcprw](rn)*;)*");

    private record Token(String text, int start, char sign) { }

    final Model.State state = new Model.State();
    int code = 0;
    int position = -1;
    private final Set<String> names = new HashSet<>();
    private final List<Token> statement = new ArrayList<>();

    TextModel(String text) {
        List<Token> tokens = tokens(text);
        int good = goodTokens(tokens);
        if (good < tokens.size()) {
            fail(1, tokens.get(good).start);
        } else if (!GRAMMAR.matcher(signs(tokens, good)).matches()) {
            fail(1, text.length());
        }
        for (Token token : tokens.subList(0, good)) {
            statement.add(token);
            int error = errorAt(token);
            if (error != 0) {
                fail(error, token.start);
                return;
            }
            if (token.sign == ';') {
                statement.clear();
            }
        }
    }

    private void fail(int error, int at) {
        code = error;
        position = at;
    }

    // ---- tokens and grammar

    private static List<Token> tokens(String text) {
        List<Token> tokens = new ArrayList<>();
        Matcher found = TOKEN.matcher(text);
        int end = 0;
        boolean wasLong = false;
        while (found.find()) {
            boolean isLong = Character.isLetterOrDigit(found.group().charAt(0)) && found.group().charAt(0) < 128;
            char sign = isLong && wasLong && found.start() == end ? '?' : sign(found.group());
            tokens.add(new Token(found.group(), found.start(), sign));
            end = found.end();
            wasLong = isLong;
        }
        return tokens;
    }

    private static char sign(String token) {
        if (token.matches("[0-9]+")) {
            return token.length() <= 4 ? 'n' : '?';
        }
        if (token.equals("rest") || token.equals("play") || token.equals("cue")) {
            return 'r';
        }
        if (token.matches("bars|mark|text|double|cut|part|;")) {
            return token.charAt(0);
        }
        return token.matches("[a-z]{1,6}") ? 'w' : '?';
    }

    private static String signs(List<Token> tokens, int count) {
        StringBuilder all = new StringBuilder();
        for (Token token : tokens.subList(0, count)) {
            all.append(token.sign);
        }
        return all.toString();
    }

    /** How many tokens can stand at the beginning of some text. */
    private static int goodTokens(List<Token> tokens) {
        int count = 0;
        while (count < tokens.size()) {
            Matcher beginning = GRAMMAR.matcher(signs(tokens, count + 1));
            if (!beginning.matches() && !beginning.hitEnd()) {
                break;
            }
            count++;
        }
        return count;
    }

    // ---- what the tokens tell; each answers the code of an error, or 0

    private int errorAt(Token token) {
        int argument = statement.size() - 1;
        if (token.sign == ';') {
            return 0;
        }
        if (argument == 0) {
            return errorOfWord(token.sign);
        }
        switch (statement.get(0).sign) {
            case 'b':
                return argument == 1 ? bars(Integer.parseInt(token.text)) : beats(Integer.parseInt(token.text));
            case 'p':
                return argument == 1 ? name(token.text) : token.sign == 'r' ? 0 : contents(argument, token);
            default:
                int bar = Integer.parseInt(token.text);
                return bar < 1 || bar > state.bars.size() ? 2 : atBar(bar - 1, argument);
        }
    }

    private int errorOfWord(char sign) {
        boolean isTooMany = sign == 'm' && state.marks.size() == 20 || sign == 'c' && state.cuts.size() == 10
                || sign == 'p' && state.parts == 6;
        return isTooMany ? 4 : 0;
    }

    private int bars(int count) {
        if (count < 1 || count > 99) {
            return 2;
        }
        for (int added = 0; added < count; added++) {
            Model.Bar bar = new Model.Bar();
            bar.id = state.bars.size();
            bar.beats = 4;
            state.bars.add(bar);
        }
        return state.bars.size() > 150 ? 4 : 0;
    }

    private int beats(int beats) {
        int count = Integer.parseInt(statement.get(1).text);
        for (Model.Bar bar : state.bars.subList(state.bars.size() - count, state.bars.size())) {
            bar.beats = beats;
        }
        return beats < 1 || beats > 12 ? 2 : 0;
    }

    private int atBar(int bar, int argument) {
        switch (statement.get(0).sign) {
            case 'm':
                if (state.marks.containsValue(bar)) {
                    return 3;
                }
                state.marks.put(state.marks.size() + 1, bar);
                return 0;
            case 't':
                state.bars.get(bar).text = true;
                return 0;
            case 'd':
                state.bars.get(bar).twofold = true;
                return 0;
            default:
                int first = Integer.parseInt(statement.get(1).text) - 1;
                if (argument == 2) {
                    state.cuts.put(state.cuts.size(), new int[] {first, bar});
                }
                return bar < first ? 2 : 0;
        }
    }

    private int name(String name) {
        state.parts++;
        return names.add(name) ? 0 : 3;
    }

    private int contents(int argument, Token token) {
        int told = 0;
        for (int before = 3; before < argument; before += 2) {
            told += Integer.parseInt(statement.get(before).text);
        }
        int count = Integer.parseInt(token.text);
        if (count < 1 || count > 99 || told + count > state.bars.size()) {
            return 2;
        }
        int content = List.of("rest", "play", "cue").indexOf(statement.get(argument - 1).text);
        for (Model.Bar bar : state.bars.subList(told, told + count)) {
            bar.content[state.parts - 1] = content;
        }
        return 0;
    }
}
