import java.util.function.IntUnaryOperator;

/** A second reading of the texts, by calls of itself, for the tests to set beside the program's. */
final class Plain {
    private static final String LETTERS = "ldkoqrgbswvnmpze";
    private static final String[] LEVELS = {"|", "&", "<>=", "+-", "*/%"};
    private static final int COMPARING = 2;

    private final String text;
    private final IntUnaryOperator letter;
    private int at = 0;

    private Plain(String text, IntUnaryOperator letter) {
        this.text = text;
        this.letter = letter;
    }

    private static final class NotThere extends RuntimeException {
        private static final long serialVersionUID = 1L;
    }

    /** The place of the first sign that can't stand there, or -1. */
    static int wrongPlace(String text, boolean recipe) {
        Plain plain = new Plain(text.length() > 60 ? text.substring(0, 60) : text, c -> 0);
        try {
            plain.join(0);
            while (recipe && plain.sees(";")) {
                plain.at++;
                plain.join(0);
            }
        } catch (NotThere e) {
            return plain.at;
        }
        if (plain.at < plain.text.length()) {
            return plain.at;
        }
        return text.length() > 60 ? 60 : -1;
    }

    /** The first of a RECIPE's EXPRESSIONS that is 0, or -2. */
    static int firstBroken(String recipe, IntUnaryOperator letter) {
        String[] each = recipe.split(";");
        for (int i = 0; i < each.length; i++) {
            if (value(each[i], letter) == 0) {
                return i;
            }
        }
        return -2;
    }

    static int value(String text, IntUnaryOperator letter) {
        return new Plain(text, letter).join(0);
    }

    private boolean sees(String signs) {
        return at < text.length() && signs.indexOf(text.charAt(at)) >= 0;
    }

    private int join(int level) {
        if (level == LEVELS.length) {
            return thing();
        }
        int v = join(level + 1);
        for (int turn = 0; sees(LEVELS[level]) && (level != COMPARING || turn == 0); turn++) {
            char sign = text.charAt(at++);
            int right = join(level + 1);
            v = worked(sign, v, right);
        }
        return v;
    }

    private static int worked(char sign, int a, int b) {
        return switch (sign) {
            case '|' -> (a != 0) | (b != 0) ? 1 : 0;
            case '&' -> (a != 0) & (b != 0) ? 1 : 0;
            case '<' -> Integer.compare(a, b) < 0 ? 1 : 0;
            case '>' -> Integer.compare(a, b) > 0 ? 1 : 0;
            case '=' -> Integer.compare(a, b) == 0 ? 1 : 0;
            case '+' -> (int) ((long) a + b);
            case '-' -> (int) ((long) a - b);
            case '*' -> (int) ((long) a * b);
            case '/' -> b == 0 ? 0 : (int) ((long) a / b);
            default -> b == 0 ? 0 : (int) ((long) a % b);
        };
    }

    private int thing() {
        if (sees("!")) {
            at++;
            return thing() == 0 ? 1 : 0;
        }
        if (sees("-")) {
            at++;
            return -thing();
        }
        if (sees("(")) {
            at++;
            int v = join(0);
            if (!sees(")")) {
                throw new NotThere();
            }
            at++;
            return v;
        }
        if (sees(LETTERS)) {
            return letter.applyAsInt(text.charAt(at++));
        }
        if (!sees("0123456789")) {
            throw new NotThere();
        }
        int v = 0;
        for (int digits = 0; digits < 4 && sees("0123456789"); digits++) {
            v = v * 10 + text.charAt(at++) - '0';
        }
        return v;
    }
}
