import java.util.ArrayList;
import java.util.List;
import java.util.regex.Pattern;

/**
 * Slopes as texts, read the other way round than the program does: a text is split at its signs, not
 * read from the left on, and a FAULT is found by trying to complete every beginning.
 */
final class SlopeText {
    private static final String NUMBER = "(0|[1-9][0-9]?)";
    private static final Pattern TEST = Pattern.compile("[gktprs][<=>]" + NUMBER);
    private static final Pattern SETTING = Pattern.compile("(rut|fog) " + NUMBER);
    private static final Pattern CONDITION = Pattern.compile("(wax|ice) " + NUMBER + " [^ ]+");
    private static final String[] PLAINEST = {"rut 1", "fog 1", "wax 1 g=1", "ice 1 g=1"};

    private SlopeText() {
    }

    /** -1: the text is a slope. */
    static int fault(String text) {
        if (good(text)) {
            return -1;
        }
        for (int i = 0; i < text.length(); i++) {
            if (!canGoOn(text.substring(0, i + 1))) {
                return i;
            }
        }
        return text.length();
    }

    private static boolean canGoOn(String beginning) {
        StringBuilder closing = new StringBuilder();
        for (int open = 0; open <= 5; open++) {
            if (good(beginning + closing)) {
                return true;
            }
            for (String plain : PLAINEST) {
                for (int from = 0; from < plain.length(); from++) {
                    if (good(beginning + plain.substring(from) + closing)) {
                        return true;
                    }
                }
            }
            closing.append(')');
        }
        return false;
    }

    static boolean good(String text) {
        String[] clauses = text.split(";", -1);
        if (clauses.length > 10) {
            return false;
        }
        for (String clause : clauses) {
            boolean fine = SETTING.matcher(clause).matches()
                    || CONDITION.matcher(clause).matches() && goodAny(condition(clause), 0);
            if (!fine) {
                return false;
            }
        }
        return true;
    }

    private static boolean goodAny(String text, int open) {
        for (String every : split(text, '|')) {
            for (String part : split(every, '&')) {
                if (!goodPart(part, open)) {
                    return false;
                }
            }
        }
        return true;
    }

    private static boolean goodPart(String text, int open) {
        if (text.startsWith("!")) {
            return open < 5 && goodPart(text.substring(1), open + 1);
        }
        if (text.startsWith("(")) {
            return open < 5 && text.endsWith(")") && goodAny(text.substring(1, text.length() - 1), open + 1);
        }
        return TEST.matcher(text).matches();
    }

    /** The parts of a text between such signs as stand in no brackets. */
    private static List<String> split(String text, char sign) {
        List<String> parts = new ArrayList<>();
        int depth = 0;
        int from = 0;
        for (int i = 0; i < text.length(); i++) {
            char c = text.charAt(i);
            depth += c == '(' ? 1 : c == ')' ? -1 : 0;
            if (c == sign && depth == 0) {
                parts.add(text.substring(from, i));
                from = i + 1;
            }
        }
        parts.add(text.substring(from));
        return parts;
    }

    private static String condition(String clause) {
        return clause.substring(clause.indexOf(' ', 4) + 1);
    }

    /** The n of the last clause of a word; 0: there is none. */
    static int last(String text, String word) {
        int n = 0;
        for (String clause : text.split(";")) {
            if (clause.startsWith(word)) {
                n = Integer.parseInt(clause.substring(4));
            }
        }
        return n;
    }

    /** The n of all clauses of a word whose condition holds, together; the values are those of gktprs. */
    static int sum(String text, String word, int[] values) {
        int sum = 0;
        for (String clause : text.split(";")) {
            if (clause.startsWith(word) && holdsAny(condition(clause), values)) {
                sum += Integer.parseInt(clause.split(" ")[1]);
            }
        }
        return sum;
    }

    private static boolean holdsAny(String text, int[] values) {
        for (String every : split(text, '|')) {
            boolean all = true;
            for (String part : split(every, '&')) {
                all &= holdsPart(part, values);
            }
            if (all) {
                return true;
            }
        }
        return false;
    }

    private static boolean holdsPart(String text, int[] values) {
        if (text.startsWith("!")) {
            return !holdsPart(text.substring(1), values);
        }
        if (text.startsWith("(")) {
            return holdsAny(text.substring(1, text.length() - 1), values);
        }
        int value = values["gktprs".indexOf(text.charAt(0))];
        int number = Integer.parseInt(text.substring(2));
        switch (text.charAt(1)) {
            case '<': return value < number;
            case '=': return value == number;
            default: return value > number;
        }
    }
}
