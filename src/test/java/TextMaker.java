import java.util.List;
import java.util.Random;

/** Makes texts of shapes and rules by chance, right ones and spoiled ones. */
final class TextMaker {
    private static final String SPOILERS = ";+-*/()<=> \n\t09aZzX:@[`{!\u0000\u00e9";
    private static final List<String> SIGNS = List.of("<", "=", ">");

    private final Random random;

    TextMaker(Random random) {
        this.random = random;
    }

    private int below(int n) {
        return random.nextInt(n);
    }

    private String blanks() {
        return below(6) == 0 ? List.of("  ", "\n", " \n ").get(below(3)) : " ";
    }

    private String number() {
        int kind = below(40);
        if (kind == 0) {
            return "0";
        }
        if (kind == 1) {
            return String.valueOf(10000 + below(9999));
        }
        if (kind < 4) {
            return String.valueOf(1000 + below(9000));
        }
        return (below(10) == 0 ? "00" : "") + below(30);
    }

    String shape(int most) {
        StringBuilder text = new StringBuilder();
        int lines = 1 + below(most);
        for (int i = 0; i < lines; i++) {
            int kind = below(4);
            int x = below(8);
            int y = below(8);
            boolean wrong = below(60) == 0;
            text.append(List.of("cell", "row", "pile", "hole").get(kind)).append(blanks());
            text.append(x).append(blanks()).append(y);
            if (kind == 1 || kind == 2) {
                int room = kind == 1 ? 8 - x : 8 - y;
                text.append(blanks()).append(wrong ? below(12) : 1 + below(room));
            }
            text.append(below(5) == 0 ? " ;" : ";").append(below(5) == 0 ? "\n" : "");
        }
        return text.toString();
    }

    /** A shape of about as many cells as told, that hang together mostly. */
    String compactShape(int cells) {
        int wide = 1 + below(Math.min(8, cells));
        StringBuilder text = new StringBuilder();
        int left = cells;
        int x = below(8 - wide + 1);
        int y = below(2);
        while (left > 0 && y < 8) {
            int many = Math.min(wide, left);
            int from = below(6) == 0 ? below(8 - many + 1) : x;
            text.append("row ").append(from).append(' ').append(y).append(' ').append(many).append(';');
            left -= many;
            y++;
        }
        if (below(3) == 0) {
            text.append("hole ").append(x + below(wide)).append(' ').append(below(3)).append(';');
        }
        return text.toString();
    }

    String rule() {
        StringBuilder text = new StringBuilder();
        int lines = below(12) == 0 ? 16 + below(2) : below(5);
        for (int i = 0; i < lines; i++) {
            int way = below(7);
            text.append(Model.WAYS.get(way));
            if (way == 1) {
                text.append(blanks()).append(number());
            }
            if (lines < 16 && below(4) > 0) {
                text.append(blanks()).append("when").append(blanks());
                any(text, 0);
            }
            text.append(below(5) == 0 ? " ;" : ";");
        }
        return text.toString();
    }

    private void any(StringBuilder text, int depth) {
        all(text, depth);
        for (int i = below(5); i > 3; i--) {
            text.append(blanks()).append("or").append(blanks());
            all(text, depth);
        }
    }

    private void all(StringBuilder text, int depth) {
        condition(text, depth);
        for (int i = below(5); i > 3; i--) {
            text.append(blanks()).append("and").append(blanks());
            condition(text, depth);
        }
    }

    private void condition(StringBuilder text, int depth) {
        int kind = below(depth > 9 ? 3 : 8);
        if (kind == 7 && below(30) == 0) {
            text.append("not ".repeat(8 + below(2) - Math.min(depth, 7)));
            kind = 0;
        }
        if (kind >= 6) {
            text.append("not").append(blanks());
            condition(text, depth + 1);
        } else if (kind == 5) {
            text.append("(");
            any(text, depth + 1);
            text.append(")");
        } else {
            sum(text);
            text.append(SIGNS.get(below(3)));
            sum(text);
        }
    }

    private void sum(StringBuilder text) {
        product(text);
        for (int i = below(4); i > 2; i--) {
            text.append(below(2) == 0 ? "+" : " - ");
            product(text);
        }
    }

    private void product(StringBuilder text) {
        unit(text);
        for (int i = below(5); i > 2; i--) {
            if (below(2) == 0) {
                text.append("/").append(number());
            } else {
                text.append(" * ");
                unit(text);
            }
        }
    }

    private void unit(StringBuilder text) {
        text.append(below(2) == 0 ? number() : Model.VALUES.get(below(5)));
    }

    String spoil(String text) {
        StringBuilder spoiled = new StringBuilder(text);
        int at = below(text.length() + 1);
        char sign = SPOILERS.charAt(below(SPOILERS.length()));
        int kind = below(4);
        if (kind == 0 || at == text.length()) {
            spoiled.insert(at, sign);
        } else if (kind == 1) {
            spoiled.setCharAt(at, sign);
        } else if (kind == 2) {
            spoiled.deleteCharAt(at);
        } else {
            spoiled.setLength(at);
        }
        return spoiled.toString();
    }
}
