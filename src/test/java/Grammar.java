import java.util.HashSet;
import java.util.LinkedHashSet;
import java.util.Set;

/**
 * The document's grammar as rules, run as a set of all that may still come, sign by sign: a text's FAULT is where
 * that set runs empty. What may come is a text of symbols: signs, # (a digit), and capital letters with a number.
 */
final class Grammar {
    private Grammar() {
    }

    /** -1: none. */
    static int fault(String text) {
        Set<String> may = opened("L0");
        for (int i = 0; i < text.length(); i++) {
            Set<String> next = new LinkedHashSet<>();
            for (String m : may) {
                boolean is = !m.isEmpty() && (m.charAt(0) == '#' ? Character.isDigit(text.charAt(i))
                    : m.charAt(0) == text.charAt(i));
                if (is) {
                    next.addAll(opened(m.substring(1)));
                }
            }
            if (next.isEmpty()) {
                return i;
            }
            may = next;
        }
        return may.contains("") ? -1 : text.length();
    }

    /** With every rule followed until a sign stands first. */
    private static Set<String> opened(String m) {
        Set<String> all = new HashSet<>();
        if (m.isEmpty() || !Character.isUpperCase(m.charAt(0))) {
            all.add(m);
            return all;
        }
        int n = m.charAt(1) - '0';
        for (String part : rule(m.charAt(0), n)) {
            all.addAll(opened(part + m.substring(2)));
        }
        return all;
    }

    /** L: clauses, behind n others. C: a clause. N: 1 or 2 digits. E, T, F: within n ( and !. */
    private static String[] rule(char symbol, int n) {
        switch (symbol) {
            case 'L': return n == 9 ? new String[] {"C0"} : new String[] {"C0", "C0;L" + (n + 1)};
            case 'C': return new String[] {"like N0 E0", "mind N0 E0", "hold N0", "day N0"};
            case 'N': return new String[] {"#", "##"};
            case 'E': return new String[] {"T" + n, "T" + n + "|E" + n};
            case 'T': return new String[] {"F" + n, "F" + n + "&T" + n};
            case 'F': return n == 4 ? new String[] {"X0"}
                : new String[] {"X0", "!F" + (n + 1), "(E" + (n + 1) + ")"};
            case 'X': return new String[] {"hY0", "rY0", "kY0", "vY0", "pY0", "sY0"};
            default: return new String[] {"<N0", "=N0", ">N0"};
        }
    }
}
