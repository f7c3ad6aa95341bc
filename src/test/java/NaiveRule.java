import java.util.ArrayList;
import java.util.List;
import java.util.Map;

/** A rule as a tree of its text. */
final class NaiveRule {
    interface Sum {
        long of(Map<String, Long> words);
    }

    interface Test {
        boolean holds(Map<String, Long> words);
    }

    record Clause(Sum sum, Test test) { }

    final List<Clause> clauses = new ArrayList<>();

    long value(Map<String, Long> words) {
        for (Clause clause : clauses) {
            if (clause.test == null || clause.test.holds(words)) {
                return clause.sum.of(words);
            }
        }
        return 0;
    }

    static Sum joined(Sum a, char sign, Sum b) {
        return switch (sign) {
            case '+' -> w -> a.of(w) + b.of(w);
            case '-' -> w -> a.of(w) - b.of(w);
            case '*' -> w -> a.of(w) * b.of(w);
            case '/' -> w -> b.of(w) == 0 ? 0 : a.of(w) / b.of(w);
            default -> w -> b.of(w) == 0 ? 0 : a.of(w) % b.of(w);
        };
    }

    static Test compared(Sum a, String sign, Sum b) {
        return switch (sign) {
            case "<" -> w -> a.of(w) < b.of(w);
            case "<=" -> w -> a.of(w) <= b.of(w);
            case "=" -> w -> a.of(w) == b.of(w);
            case ">=" -> w -> a.of(w) >= b.of(w);
            default -> w -> a.of(w) > b.of(w);
        };
    }
}
