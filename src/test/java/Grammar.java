import java.util.ArrayDeque;
import java.util.Deque;
import java.util.HashSet;
import java.util.Set;

/**
 * The document's grammar as rules, gone through with all derivations at a time. It knows of a text what
 * the program must tell of it, and shares no way of working with it: a derivation is the text of symbols
 * that must still come. Symbols: A all, R rest of all, P part, C comparison, T term, S rest of term,
 * I item, 3 2 1 up to so many digits more, D digit, V column, ] the end of a part behind an open !.
 */
final class Grammar {
    private static final int OPEN_AT_A_TIME = 5;
    private static final int REFUSED_NOWHERE = -1;

    private Grammar() {
    }

    /** Where the text is refused as a condition, or -1. */
    static int conditionErrorAt(String text) {
        return text.isEmpty() ? REFUSED_NOWHERE : errorAt("A", text);
    }

    /** Where the text is refused as a setting, or -1. */
    static int settingErrorAt(String text) {
        return errorAt("V=T", text);
    }

    private static int errorAt(String start, String text) {
        Set<String> derivations = Set.of(start);
        for (int k = 0; k < text.length(); k++) {
            derivations = after(text.charAt(k), derivations);
            if (derivations.isEmpty()) {
                return k;
            }
        }
        return closed(derivations).contains("") ? REFUSED_NOWHERE : text.length();
    }

    private static Set<String> after(char character, Set<String> derivations) {
        Set<String> next = new HashSet<>();
        for (String derivation : closed(derivations)) {
            if (!derivation.isEmpty() && matches(derivation.charAt(0), character)) {
                next.add(derivation.substring(1));
            }
        }
        return next;
    }

    private static boolean matches(char symbol, char character) {
        switch (symbol) {
            case 'V':
                return "abcd".indexOf(character) >= 0;
            case 'D':
                return "0123456789".indexOf(character) >= 0;
            case 'C':
                return "=#<>".indexOf(character) >= 0;
            default:
                return "ARPTSI321]".indexOf(symbol) < 0 && symbol == character;
        }
    }

    private static Set<String> closed(Set<String> derivations) {
        Set<String> seen = new HashSet<>(derivations);
        Deque<String> open = new ArrayDeque<>(derivations);
        while (!open.isEmpty()) {
            String derivation = open.remove();
            if (derivation.isEmpty()) {
                continue;
            }
            String rest = derivation.substring(1);
            for (String rule : rules(derivation.charAt(0), rest)) {
                if (seen.add(rule + rest)) {
                    open.add(rule + rest);
                }
            }
        }
        return seen;
    }

    private static String[] rules(char symbol, String rest) {
        switch (symbol) {
            case 'A':
                return new String[] {"PR"};
            case 'R':
                return new String[] {"", "&PR", "|PR"};
            case 'P':
                return openIn(rest) < OPEN_AT_A_TIME ? new String[] {"TCT", "!P]", "(A)"} : new String[] {"TCT"};
            case 'T':
                return new String[] {"IS"};
            case 'S':
                return new String[] {"", "+IS", "-IS", "*IS", "/IS"};
            case 'I':
                return new String[] {"V", "D3"};
            case '3':
                return new String[] {"", "D2"};
            case '2':
                return new String[] {"", "D1"};
            case '1':
                return new String[] {"", "D"};
            case ']':
                return new String[] {""};
            default:
                return new String[0];
        }
    }

    private static int openIn(String rest) {
        int open = 0;
        for (int i = 0; i < rest.length(); i++) {
            if (rest.charAt(i) == ')' || rest.charAt(i) == ']') {
                open++;
            }
        }
        return open;
    }
}
