import java.util.ArrayList;
import java.util.List;
import java.util.Map;
import java.util.function.ToIntFunction;

/** A law as functions of its letters. A division by 0 is thrown by the machine, and caught where C or E is asked. */
final class LawModel {
    /** The first fault of a text. */
    static final class Fault extends RuntimeException {
        private static final long serialVersionUID = 1L;
        final int told;

        Fault(int number, int place) {
            told = -1000 * number - place;
        }
    }

    private interface Reckoned extends ToIntFunction<Map<Character, Integer>> { }

    private final List<Reckoned> amounts = new ArrayList<>();
    private final List<Reckoned> conditions = new ArrayList<>();
    private final String text;
    private int at;
    private String open = "";

    private LawModel(String text) {
        this.text = text;
    }

    static LawModel of(String text) {
        LawModel law = new LawModel(text);
        do {
            law.clause();
        } while (law.passed(";") != 0);
        if (law.at < text.length()) {
            throw new Fault(1, law.at);
        }
        return law;
    }

    int clauses() {
        return amounts.size();
    }

    int gives(Map<Character, Integer> letters) {
        for (int i = 0; i < amounts.size(); i++) {
            if (orZero(conditions.get(i), letters) == 1) {
                return Math.min(100, Math.max(0, orZero(amounts.get(i), letters)));
            }
        }
        return 0;
    }

    private static int orZero(Reckoned reckoned, Map<Character, Integer> letters) {
        try {
            return reckoned.applyAsInt(letters);
        } catch (ArithmeticException refused) {
            return 0;
        }
    }

    /** The sign, if it is one of those, and passed then; else 0. */
    private char passed(String signs) {
        if (at < text.length() && signs.indexOf(text.charAt(at)) >= 0) {
            at++;
            return text.charAt(at - 1);
        }
        return 0;
    }

    private char must(String signs) {
        char sign = passed(signs);
        if (sign == 0) {
            throw new Fault(1, at);
        }
        return sign;
    }

    private void opens(char sign) {
        open += sign;
        if (open.length() > 6) {
            throw new Fault(5, at - 1);
        }
    }

    private void closes() {
        open = open.substring(1);
    }

    private void clause() {
        must("g");
        if (amounts.size() == 12) {
            throw new Fault(4, at - 1);
        }
        Reckoned amount = sum();
        must("(");
        opens('(');
        Reckoned condition = choice();
        must(")");
        closes();
        amounts.add(amount);
        conditions.add(condition);
    }

    private Reckoned choice() {
        Reckoned first = part();
        if (passed("|") == 0) {
            return first;
        }
        Reckoned rest = choice();
        return letters -> first.applyAsInt(letters) == 1 || rest.applyAsInt(letters) == 1 ? 1 : 0;
    }

    private Reckoned part() {
        Reckoned first = piece();
        if (passed("&") == 0) {
            return first;
        }
        Reckoned rest = part();
        return letters -> first.applyAsInt(letters) == 1 && rest.applyAsInt(letters) == 1 ? 1 : 0;
    }

    private Reckoned piece() {
        if (passed("!") != 0) {
            opens('!');
            Reckoned denied = piece();
            closes();
            return letters -> denied.applyAsInt(letters) == 0 ? 1 : 0;
        }
        if (passed("(") != 0) {
            opens('(');
            Reckoned inside = choice();
            must(")");
            closes();
            return inside;
        }
        Reckoned left = sum();
        char sign = must("<>=");
        Reckoned right = sum();
        return letters -> {
            int order = Integer.compare(left.applyAsInt(letters), right.applyAsInt(letters));
            return (sign == '<' ? order < 0 : sign == '>' ? order > 0 : order == 0) ? 1 : 0;
        };
    }

    private Reckoned sum() {
        Reckoned all = product();
        for (char sign = passed("+-"); sign != 0; sign = passed("+-")) {
            Reckoned left = all;
            Reckoned right = product();
            int factor = sign == '+' ? 1 : -1;
            all = letters -> left.applyAsInt(letters) + factor * right.applyAsInt(letters);
        }
        return all;
    }

    private Reckoned product() {
        Reckoned all = factor();
        for (char sign = passed("*/%"); sign != 0; sign = passed("*/%")) {
            Reckoned left = all;
            Reckoned right = factor();
            char how = sign;
            all = letters -> {
                int a = left.applyAsInt(letters);
                int b = right.applyAsInt(letters);
                return how == '*' ? a * b : how == '/' ? a / b : a % b;
            };
        }
        return all;
    }

    private Reckoned factor() {
        if (passed("[") != 0) {
            opens('[');
            Reckoned inside = sum();
            must("]");
            closes();
            return inside;
        }
        char sign = must("ndbahusty0123456789");
        if (!Character.isDigit(sign)) {
            return letters -> letters.get(sign);
        }
        String digits = "" + sign;
        for (char digit = passed("0123456789"); digit != 0; digit = passed("0123456789")) {
            digits += digit;
            if (digits.length() == 6) {
                throw new Fault(2, at - 1);
            }
        }
        int number = Integer.parseInt(digits);
        return letters -> number;
    }
}
