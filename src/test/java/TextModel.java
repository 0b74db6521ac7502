import java.util.ArrayList;
import java.util.List;
import java.util.Map;
import java.util.regex.Matcher;
import java.util.regex.Pattern;

/** Reads a net or orders by patterns: of all faults that a text has the first from the left. */
final class TextModel {
    record Clause(String word, List<Long> numbers) {
        int at(int i) {
            return (int) (long) numbers.get(i);
        }
    }

    private static final Map<String, String> NET = Map.of("towns", "n", "road", "ttl");
    private static final Map<String, String> ORDERS = Map.of("lay", "ttl", "length", "rl", "close", "r",
        "open", "r", "origin", "t", "watch", "tl", "forget", "t");
    private static final Pattern WORD = Pattern.compile("[a-z]*");
    private static final Pattern NUMBER = Pattern.compile(" -?[0-9]{1,10}");

    final List<Clause> clauses = new ArrayList<>();
    int towns;
    int fault = 0;

    TextModel(String text, boolean isNet, int towns) {
        this.towns = towns;
        int at = 0;
        while (fault == 0) {
            if (clauses.size() == 24) {
                fault = -4000 - at;
                return;
            }
            Matcher word = WORD.matcher(text).region(at, text.length());
            word.lookingAt();
            String shape = (isNet ? NET : ORDERS).get(word.group());
            if (shape == null || shape.equals("n") && at > 0) {
                fault = -1000 - at;
                return;
            }
            at = numbers(text, word.end(), word.group(), shape);
            if (fault == 0 && at == text.length()) {
                return;
            }
            if (fault == 0 && text.charAt(at) != ';') {
                fault = -1000 - at;
            }
            at++;
        }
    }

    private int numbers(String text, int from, String word, String shape) {
        int at = from;
        List<Long> found = new ArrayList<>();
        for (char kind : shape.toCharArray()) {
            Matcher number = NUMBER.matcher(text).region(at, text.length());
            if (!number.lookingAt()) {
                fault = -1000 - wherePatternBreaks(text, at);
                return at;
            }
            if (number.group().replace("-", "").length() == 11 && isDigit(text, number.end())) {
                fault = -2000 - number.end();
                return at;
            }
            long value = Long.parseLong(number.group().substring(1));
            if (!isTold(kind, value)) {
                fault = -3000 - (at + 1);
                return at;
            }
            if (shape.equals("ttl") && found.size() == 1 && found.get(0) == value) {
                fault = -6000 - (at + 1);
                return at;
            }
            if (kind == 'n') {
                towns = (int) value;
            }
            found.add(value);
            at = number.end();
        }
        clauses.add(new Clause(word, found));
        return at;
    }

    private static boolean isDigit(String text, int at) {
        return at < text.length() && text.charAt(at) >= '0' && text.charAt(at) <= '9';
    }

    private static int wherePatternBreaks(String text, int at) {
        if (at >= text.length() || text.charAt(at) != ' ') {
            return at;
        }
        return at + 1 < text.length() && text.charAt(at + 1) == '-' ? at + 2 : at + 1;
    }

    private boolean isTold(char kind, long value) {
        return switch (kind) {
            case 'n' -> value >= 2 && value <= 12;
            case 't' -> value >= 0 && value < towns;
            case 'r' -> value >= 0 && value <= 35;
            default -> Math.abs(value) <= 1_000_000_000L;
        };
    }
}
