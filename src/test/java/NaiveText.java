import java.util.ArrayList;
import java.util.HashSet;
import java.util.List;
import java.util.Set;

/** Reads the two languages by tokens; a fault ends the reading by an exception. */
final class NaiveText {
    static final int NONE = -1;

    private static final class Fault extends RuntimeException {
        private static final long serialVersionUID = 1L;
    }

    record Told(NaiveRow.Law law, String state, int first) { }

    /** What: a small word, n a number, or the sign itself; e at the end. */
    record Token(String what, String text, int place) { }

    private final List<Token> tokens = new ArrayList<>();
    private int at;
    private int parts;
    int fault = NONE;

    NaiveText(String text) {
        int i = 0;
        while (i < text.length()) {
            int from = i;
            char c = text.charAt(i);
            if (c == ' ') {
                i++;
            } else if (c >= 'a' && c <= 'z') {
                while (i < text.length() && text.charAt(i) >= 'a' && text.charAt(i) <= 'z') {
                    i++;
                }
                tokens.add(new Token("w", text.substring(from, i), from));
            } else if (c >= '0' && c <= '9') {
                while (i < text.length() && text.charAt(i) >= '0' && text.charAt(i) <= '9') {
                    i++;
                }
                tokens.add(new Token("n", text.substring(from, i), from));
            } else {
                boolean two = (c == '<' || c == '>') && i + 1 < text.length() && text.charAt(i + 1) == '=';
                i += two ? 2 : 1;
                tokens.add(new Token("s", text.substring(from, i), from));
            }
        }
        tokens.add(new Token("e", "", text.length()));
    }

    private Token token() {
        return tokens.get(at);
    }

    private Fault fail(int place, int kind) {
        fault = 1 + 8 * place + kind;
        return new Fault();
    }

    private boolean is(String what, String text) {
        return token().what.equals(what) && token().text.equals(text);
    }

    private boolean take(String what, String text) {
        if (is(what, text)) {
            at++;
            return true;
        }
        return false;
    }

    private int number(int least, int most) {
        Token token = token();
        if (!token.what.equals("n")) {
            throw fail(token.place, 0);
        }
        if (token.text.length() > 5 || Integer.parseInt(token.text) < least || Integer.parseInt(token.text) > most) {
            throw fail(token.place, 1);
        }
        at++;
        return Integer.parseInt(token.text);
    }

    private boolean more() {
        if (token().what.equals("e")) {
            return false;
        }
        if (!take("s", ";")) {
            throw fail(token().place, 0);
        }
        return true;
    }

    Told alley() {
        try {
            return alleyOrFault();
        } catch (Fault f) {
            return null;
        }
    }

    private Told alleyOrFault() {
        List<Integer> rowOf = new ArrayList<>();
        List<Integer> rings = new ArrayList<>();
        Set<Integer> hits = new HashSet<>();
        Set<String> once = new HashSet<>();
        StringBuilder state = new StringBuilder();
        int rows = 0;
        int first = 0;
        int stray = 0;
        int clause = 0;
        do {
            Token word = token();
            if (!word.what.equals("w") || !Set.of("alley", "row", "ring", "hit", "ends", "last", "stray").contains(word.text)) {
                throw fail(word.place, 0);
            }
            boolean oneOnly = Set.of("alley", "ends", "last").contains(word.text);
            if (clause == 40 || (clause == 0) != word.text.equals("alley") || oneOnly && !once.add(word.text)
                    || word.text.equals("row") && rows == 4) {
                throw fail(word.place, 4);
            }
            clause++;
            at++;
            switch (word.text) {
                case "alley" -> first = number(0, 1);
                case "row" -> row(rowOf, state, rows++);
                case "ring" -> {
                    int place = token().place;
                    int row = number(0, rows - 1);
                    if (rowOf.stream().filter(r -> r == row).count() < 3) {
                        throw fail(place, 1);
                    }
                    rings.add(row);
                }
                case "hit" -> hits.add(number(1, 4));
                case "stray" -> stray = number(0, 100);
                default -> { }
            }
        } while (more());
        if (hits.isEmpty()) {
            hits.addAll(List.of(1, 2));
        }
        NaiveRow.Law law = new NaiveRow.Law(rowOf, rings, hits, once.contains("ends"), once.contains("last"), stray);
        return new Told(law, state.toString(), first);
    }

    private void row(List<Integer> rowOf, StringBuilder state, int row) {
        Token digits = token();
        if (!digits.what.equals("n")) {
            throw fail(digits.place, 0);
        }
        for (int i = 0; i < digits.text.length(); i++) {
            char c = digits.text.charAt(i);
            if (c > '1') {
                throw fail(digits.place + i, 0);
            }
            if (state.length() == 12) {
                throw fail(digits.place + i, 3);
            }
            state.append(c);
            rowOf.add(row);
        }
        at++;
    }

    NaiveRule rule() {
        try {
            NaiveRule rule = new NaiveRule();
            do {
                if (!is("w", "stroke")) {
                    throw fail(token().place, 0);
                }
                if (rule.clauses.size() == 12) {
                    throw fail(token().place, 4);
                }
                at++;
                NaiveRule.Sum sum = sum();
                NaiveRule.Test test = take("w", "if") ? test(0) : null;
                rule.clauses.add(new NaiveRule.Clause(sum, test));
            } while (more());
            return rule;
        } catch (Fault f) {
            return null;
        }
    }

    private NaiveRule.Test test(int deep) {
        NaiveRule.Test all = part(deep);
        while (take("w", "or")) {
            NaiveRule.Test a = all;
            NaiveRule.Test b = part(deep);
            all = w -> a.holds(w) || b.holds(w);
        }
        return all;
    }

    private NaiveRule.Test part(int deep) {
        NaiveRule.Test all = fact(deep);
        while (take("w", "and")) {
            NaiveRule.Test a = all;
            NaiveRule.Test b = fact(deep);
            all = w -> a.holds(w) && b.holds(w);
        }
        return all;
    }

    private NaiveRule.Test fact(int deep) {
        Token token = token();
        boolean opens = is("s", "[") || is("w", "not");
        if (opens && deep == 10) {
            throw fail(token.place, 2);
        }
        if (take("w", "not")) {
            NaiveRule.Test a = fact(deep + 1);
            return w -> !a.holds(w);
        }
        if (take("s", "[")) {
            NaiveRule.Test a = test(deep + 1);
            if (!take("s", "]")) {
                throw fail(token().place, 0);
            }
            return a;
        }
        NaiveRule.Sum a = sum();
        Token sign = token();
        if (!sign.what.equals("s") || !Set.of("<", "<=", "=", ">=", ">").contains(sign.text)) {
            throw fail(sign.place, 0);
        }
        part60(sign.place);
        at++;
        return NaiveRule.compared(a, sign.text, sum());
    }

    private void part60(int place) {
        if (++parts > 60) {
            throw fail(place, 3);
        }
    }

    private NaiveRule.Sum sum() {
        NaiveRule.Sum all = term();
        while (is("s", "+") || is("s", "-")) {
            char sign = token().text.charAt(0);
            at++;
            all = NaiveRule.joined(all, sign, term());
        }
        return all;
    }

    private NaiveRule.Sum term() {
        NaiveRule.Sum all = value();
        while (is("s", "*") || is("s", "/") || is("s", "%")) {
            char sign = token().text.charAt(0);
            at++;
            all = NaiveRule.joined(all, sign, value());
        }
        return all;
    }

    private NaiveRule.Sum value() {
        Token token = token();
        if (token.what.equals("n")) {
            long number = number(0, 99999);
            part60(token.place);
            return w -> number;
        }
        Set<String> words = Set.of("place", "many", "row", "standing", "left", "runs", "longest", "alone", "won", "turn", "strokes");
        if (!token.what.equals("w") || !words.contains(token.text)) {
            throw fail(token.place, 0);
        }
        part60(token.place);
        at++;
        return w -> w.get(token.text);
    }
}
