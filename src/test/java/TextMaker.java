import java.util.ArrayList;
import java.util.Collections;
import java.util.List;
import java.util.Random;

/** Makes texts: sound ones by the grammar, and spoilt ones out of these. */
final class TextMaker {
    private static final String[] ALWAYS = {"x", "y", "size", "paints", "hill"};
    private static final String[] SIGHT = {"hour", "scope", "turned", "far"};
    private static final String[] SIGNS = {"prior", "sees", "slip", "cost", "if", "end", "or", "and", "not", "x", "far",
        "act", "X", "sizes", "0", "9999", "10000", "00009999", "123456789012", "<=", ">=", "<", ">", "=", "#", "+", "-",
        "*", "/", "(", ")", ";", "?", ":", "!", "\t", "\n", "=<", "- - - -", "((((", "not not not"};

    private final Random random;
    private String clause = "";
    private int room = 0;

    TextMaker(Random random) {
        this.random = random;
    }

    String sound() {
        List<String> clauses = new ArrayList<>(List.of("prior", "sees", "slip", "cost"));
        Collections.shuffle(clauses, random);
        StringBuilder text = new StringBuilder();
        for (String one : clauses) {
            if (random.nextInt(5) > 0) {
                clause = one;
                room = 10 + random.nextInt(40);
                text.append(gap()).append(one).append(' ').append(sum()).append(gap()).append(';');
            }
        }
        return text.length() > 300 ? "" : text.toString();
    }

    String spoilt() {
        String text = random.nextInt(6) == 0 ? deep() : sound();
        int times = random.nextInt(3);
        for (int i = 0; i < times; i++) {
            int at = random.nextInt(text.length() + 1);
            int to = Math.min(text.length(), at + random.nextInt(4));
            switch (random.nextInt(4)) {
                case 0 -> text = text.substring(0, at) + text.substring(to);
                case 1 -> text = text.substring(0, at) + " " + pick(SIGNS) + " " + text.substring(at);
                case 2 -> text = text.substring(0, at) + (char) random.nextInt(256) + text.substring(to);
                default -> text = text.substring(0, at);
            }
        }
        return text.length() > 300 ? text.substring(0, 300) : text;
    }

    /** Levels around the most that may be open. */
    private String deep() {
        clause = random.nextBoolean() ? "prior" : "sees";
        int levels = 6 + random.nextInt(5);
        StringBuilder before = new StringBuilder(clause + " ");
        StringBuilder behind = new StringBuilder(";");
        for (int i = 0; i < levels; i++) {
            switch (random.nextInt(6)) {
                case 0, 1 -> {
                    before.append("(");
                    behind.insert(0, "+1)");
                }
                case 2, 3 -> before.append("-");
                case 4 -> {
                    before.append("if ");
                    behind.insert(0, "=1?2:3 end");
                }
                default -> {
                    before.append("if not ");
                    i++;
                    behind.insert(0, "<2?size:-1 end*2");
                }
            }
        }
        return before.append(random.nextBoolean() ? "x" : "-1").append(behind).toString();
    }

    private String pick(String[] row) {
        return row[random.nextInt(row.length)];
    }

    private String gap() {
        return random.nextInt(4) == 0 ? random.nextInt(3) == 0 ? "\n" : " " : "";
    }

    private String sum() {
        StringBuilder sum = new StringBuilder(product());
        while (room > 0 && random.nextInt(3) == 0) {
            sum.append(gap()).append(random.nextBoolean() ? "+" : "-").append(gap()).append(product());
        }
        return sum.toString();
    }

    private String product() {
        StringBuilder product = new StringBuilder(one());
        while (room > 0 && random.nextInt(4) == 0) {
            product.append(gap()).append(random.nextBoolean() ? "*" : "/").append(gap()).append(one());
        }
        return product.toString();
    }

    private String one() {
        room -= 4;
        int kind = random.nextInt(room > 0 ? 20 : 10);
        if (kind < 4) {
            return Integer.toString(random.nextInt(12) == 0 ? random.nextInt(10000) : random.nextInt(10));
        }
        if (kind < 10) {
            return name();
        }
        if (kind < 13) {
            return "(" + gap() + sum() + gap() + ")";
        }
        if (kind < 14) {
            return "-" + gap() + one();
        }
        room -= 8;
        return "if " + either() + "?" + gap() + sum() + ":" + sum() + " end" + (random.nextInt(5) == 0 ? "\n" : "");
    }

    private String name() {
        if (clause.equals("cost") && random.nextBoolean()) {
            return "act";
        }
        boolean sight = clause.equals("sees") || clause.equals("slip");
        return sight && random.nextBoolean() ? pick(SIGHT) : pick(ALWAYS);
    }

    private String either() {
        StringBuilder either = new StringBuilder(question());
        while (room > 0 && random.nextInt(3) == 0) {
            either.append(random.nextBoolean() ? " or " : " and ").append(question());
        }
        return either.toString();
    }

    private String question() {
        if (random.nextInt(6) == 0) {
            return "not " + question();
        }
        return sum() + gap() + pick(new String[] {"<", "<=", ">", ">=", "=", "#"}) + gap() + sum();
    }
}
