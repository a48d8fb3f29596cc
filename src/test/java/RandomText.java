import java.util.Random;

/** Makes texts of rules: most of them whole, many spoilt somewhere, some near the limits. */
final class RandomText {
    private static final String[] VARS = {"word", "was", "paper", "sort", "minute", "member",
            "office", "days", "times", "heard", "next", "lines"};
    private static final String[] COMPARISONS = {"==", "!=", "<", "<="};
    private static final String[] NAMES =
            {"a", "b", "c", "d", "e", "f", "abcdefgh", "rights", "i"};
    private static final String[] PIECES = {"(", ")", ";", "<", "<=", "=", "==", "!", "!=", "not",
            "and", "or", "if", "to", "from", "strike", "bar", "word", "1", "99999", "abcdefghi",
            " ", "+", "*", "\u00e9", "A", ".", "\t", "\f", "lines"};
    private static final int BYTES = 2000;

    private final Random random;
    private final boolean gentle;
    private final StringBuilder text = new StringBuilder();

    /** With gentle: a text that is seldom spoilt, whose rules are of early days. */
    RandomText(Random random, boolean gentle) {
        this.random = random;
        this.gentle = gentle;
    }

    String text() {
        int kind = random.nextInt(12);
        if (random.nextInt(3) == 0) {
            put("from");
            put(number(random.nextInt(40) == 0 ? 98 + random.nextInt(5) : early()));
            put(";");
        }
        int rules = kind == 0 ? 23 + random.nextInt(3) : random.nextInt(7);
        for (int i = 0; i < rules; i++) {
            rule(kind == 0 ? 0 : 2);
        }
        if (kind == 1) {
            longRule();
        }
        if (kind == 2) {
            deepRule();
        }
        int spoils = random.nextInt(gentle ? 12 : 3) > 0 ? 0 : 1 + random.nextInt(3);
        for (int i = 0; i < spoils; i++) {
            spoil();
        }
        if (text.length() > BYTES) {
            text.setLength(BYTES);
        }
        return text.toString();
    }

    private int early() {
        return random.nextInt(gentle ? 4 : 8);
    }

    private void put(String token) {
        int length = text.length();
        boolean touching =
                length > 0 && isWordy(text.charAt(length - 1)) && isWordy(token.charAt(0));
        if (touching || random.nextInt(6) == 0) {
            text.append(random.nextInt(20) == 0 ? "\n" : " ");
        }
        text.append(token);
    }

    private static boolean isWordy(char sign) {
        return sign >= 'a' && sign <= 'z' || sign >= '0' && sign <= '9';
    }

    private <T> T pick(T[] all) {
        return all[random.nextInt(all.length)];
    }

    private void rule(int size) {
        switch (random.nextInt(12)) {
            case 0:
                put("strike");
                put(pick(NAMES));
                break;
            case 1:
            case 2:
            case 3:
                put("right");
                put(pick(NAMES));
                put("to");
                sum(size);
                if (random.nextInt(5) > 0) {
                    put("if");
                    condition(size);
                }
                break;
            default:
                put(pick(new String[] {"mend", "mend", "bar", "leave", "court"}));
                put(pick(NAMES));
                put("if");
                condition(size);
                break;
        }
        put(";");
    }

    private void condition(int size) {
        literal(size);
        for (int i = random.nextInt(4) - 1; size > 0 && i > 0; i--) {
            put(random.nextBoolean() ? "and" : "or");
            literal(size - 1);
        }
    }

    private void literal(int size) {
        while (random.nextInt(4) == 0) {
            put("not");
        }
        if (random.nextInt(3) == 0) {
            put(pick(VARS));
        } else {
            sum(size);
        }
        put(pick(COMPARISONS));
        if (random.nextInt(2) == 0) {
            put(number(random.nextInt(7)));
        } else {
            sum(size - 1);
        }
    }

    private void sum(int size) {
        unit(size);
        while (size > 0 && random.nextInt(3) == 0) {
            put(pick(new String[] {"+", "-", "*", "/"}));
            unit(size - 1);
        }
    }

    private void unit(int size) {
        int choice = random.nextInt(10);
        if (choice < 4) {
            put(pick(VARS));
        } else if (choice < 8 || size <= 0) {
            put(number(random.nextInt(12) == 0 ? random.nextInt(10000) : random.nextInt(7)));
        } else {
            put("(");
            sum(size - 1);
            put(")");
        }
    }

    private static String number(int value) {
        return Integer.toString(value);
    }

    /** Tokens near the 400th. */
    private void longRule() {
        put("right");
        put("z");
        put("to");
        put("1");
        int before = new StringBuilder(text).toString().split("[^a-z0-9]+").length;
        int terms = (400 - before) / 2 - random.nextInt(12);
        for (int i = 0; i < terms; i++) {
            put("+");
            put("1");
        }
        put(";");
        rule(1);
    }

    /** Parentheses near the sixth. */
    private void deepRule() {
        put("leave");
        put("y");
        put("if");
        int depth = 4 + random.nextInt(4);
        for (int i = 0; i < depth; i++) {
            if (random.nextBoolean()) {
                put("1");
                put(pick(new String[] {"+", "-", "*", "/"}));
            }
            put("(");
        }
        put("word");
        for (int i = 0; i < depth; i++) {
            put(")");
            if (random.nextBoolean()) {
                put(pick(new String[] {"+", "-", "*", "/"}));
                put("2");
            }
        }
        put("<");
        put("9");
        put(";");
    }

    private void spoil() {
        int at = random.nextInt(text.length() + 1);
        switch (random.nextInt(4)) {
            case 0:
                text.insert(at, pick(PIECES));
                break;
            case 1:
                text.delete(at, Math.min(text.length(), at + 1 + random.nextInt(3)));
                break;
            case 2:
                text.setLength(at);
                break;
            default:
                if (at < text.length()) {
                    text.setCharAt(at, pick(PIECES).charAt(0));
                }
                break;
        }
    }
}
