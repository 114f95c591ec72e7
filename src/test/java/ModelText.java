import java.math.BigInteger;
import java.nio.charset.StandardCharsets;
import java.util.ArrayList;
import java.util.HashMap;
import java.util.List;
import java.util.Map;
import java.util.Set;
import java.util.regex.Matcher;
import java.util.regex.Pattern;

/** The model's reader of a TEXT: a tree for each CLAUSE, or the first FAULT and its place. */
final class ModelText {
    interface Sum {
        BigInteger of(Map<String, Integer> names);
    }

    interface Question {
        boolean holds(Map<String, Integer> names);
    }

    private static final class Fault extends RuntimeException {
        private static final long serialVersionUID = 1;
        final int kind;

        Fault(int kind) {
            this.kind = kind;
        }
    }

    private record Token(String sign, int place) {
    }

    private static final Pattern TOKEN = Pattern.compile("[a-zA-Z]+|[0-9]+|<=|>=|[-<>=#+*/();?:]|[^ \n]");
    private static final BigInteger MOST = BigInteger.valueOf(1000000);
    private static final Set<String> ALWAYS = Set.of("x", "y", "size", "paints", "hill");
    private static final Set<String> OF_SIGHT = Set.of("hour", "scope", "turned", "far");

    final Map<String, Sum> clauses = new HashMap<>();
    int fault = 0;
    int place = -1;
    private final List<Token> tokens = new ArrayList<>();
    private int at = 0;
    private int open = 0;
    private String clause = "";

    ModelText(byte[] tape) {
        Matcher matcher = TOKEN.matcher(new String(tape, StandardCharsets.ISO_8859_1));
        while (matcher.find()) {
            tokens.add(new Token(matcher.group(), matcher.start()));
        }
        tokens.add(new Token("", tape.length));
        try {
            while (!next().isEmpty()) {
                clause();
            }
        } catch (Fault first) {
            fault = first.kind;
            place = tokens.get(at).place;
        }
    }

    private String next() {
        return tokens.get(at).sign;
    }

    private boolean comes(String... signs) {
        return Set.of(signs).contains(next());
    }

    private String take(String... signs) {
        if (!comes(signs)) {
            throw new Fault(1);
        }
        return tokens.get(at++).sign;
    }

    private void clause() {
        if (comes("prior", "sees", "slip", "cost") && clauses.containsKey(next())) {
            throw new Fault(4);
        }
        clause = take("prior", "sees", "slip", "cost");
        Sum sum = sum();
        take(";");
        clauses.put(clause, sum);
    }

    private static BigInteger held(BigInteger number) {
        return number.min(MOST).max(MOST.negate());
    }

    private Sum sum() {
        Sum left = product();
        while (comes("+", "-")) {
            boolean more = take("+", "-").equals("+");
            Sum one = left;
            Sum other = product();
            left = n -> held(more ? one.of(n).add(other.of(n)) : one.of(n).subtract(other.of(n)));
        }
        return left;
    }

    private Sum product() {
        Sum left = one();
        while (comes("*", "/")) {
            boolean times = take("*", "/").equals("*");
            Sum one = left;
            Sum other = one();
            left = n -> held(times ? one.of(n).multiply(other.of(n)) : cut(one.of(n), other.of(n)));
        }
        return left;
    }

    private static BigInteger cut(BigInteger number, BigInteger by) {
        return by.signum() == 0 ? BigInteger.ZERO : number.divide(by);
    }

    private void enter(String sign) {
        if (comes(sign) && open == 8) {
            throw new Fault(3);
        }
        take(sign);
        open++;
    }

    private Sum one() {
        if (comes("(")) {
            enter("(");
            Sum inner = sum();
            take(")");
            open--;
            return inner;
        }
        if (comes("-")) {
            enter("-");
            Sum inner = one();
            open--;
            return n -> inner.of(n).negate();
        }
        if (comes("if")) {
            return choice();
        }
        if (!next().isEmpty() && Character.isDigit(next().charAt(0))) {
            BigInteger number = new BigInteger(next());
            if (number.compareTo(BigInteger.valueOf(9999)) > 0) {
                throw new Fault(2);
            }
            at++;
            return n -> number;
        }
        return name();
    }

    private Sum name() {
        String name = next();
        if (!ALWAYS.contains(name) && !OF_SIGHT.contains(name) && !name.equals("act")) {
            throw new Fault(1);
        }
        boolean sight = clause.equals("sees") || clause.equals("slip");
        if (OF_SIGHT.contains(name) && !sight || name.equals("act") && !clause.equals("cost")) {
            throw new Fault(5);
        }
        at++;
        return n -> BigInteger.valueOf(n.get(name));
    }

    private Sum choice() {
        enter("if");
        Question question = either();
        take("?");
        Sum yes = sum();
        take(":");
        Sum no = sum();
        take("end");
        open--;
        return n -> question.holds(n) ? yes.of(n) : no.of(n);
    }

    private Question either() {
        List<Question> parts = new ArrayList<>();
        parts.add(both());
        while (comes("or")) {
            take("or");
            parts.add(both());
        }
        return n -> parts.stream().anyMatch(p -> p.holds(n));
    }

    private Question both() {
        List<Question> parts = new ArrayList<>();
        parts.add(ask());
        while (comes("and")) {
            take("and");
            parts.add(ask());
        }
        return n -> parts.stream().allMatch(p -> p.holds(n));
    }

    private Question ask() {
        if (comes("not")) {
            enter("not");
            Question inner = ask();
            open--;
            return n -> !inner.holds(n);
        }
        Sum left = sum();
        String how = take("<", "<=", ">", ">=", "=", "#");
        Sum right = sum();
        return n -> compare(how, left.of(n).compareTo(right.of(n)));
    }

    private static boolean compare(String how, int order) {
        return switch (how) {
            case "<" -> order < 0;
            case "<=" -> order <= 0;
            case ">" -> order > 0;
            case ">=" -> order >= 0;
            case "=" -> order == 0;
            default -> order != 0;
        };
    }
}
