import java.util.ArrayList;
import java.util.List;
import java.util.TreeSet;
import java.util.function.ToIntFunction;
import java.util.regex.Matcher;
import java.util.regex.Pattern;

/** The texts of the document, read with patterns and exceptions. */
final class ModelReader {
    private static final Pattern TOKEN = Pattern.compile("[ \n]*([A-Za-z]+|[0-9]+|[^ \n])", Pattern.DOTALL);

    private final Matcher matcher;
    private String token;
    private int place;

    ModelReader(String text) {
        // A sign that no text has marks the end.
        matcher = TOKEN.matcher(text + '\uffff');
        next();
    }

    private void next() {
        if (!"\uffff".equals(token)) {
            matcher.find();
            token = matcher.group(1);
            place = matcher.start(1);
        }
    }

    private RuntimeException fault(int what) {
        return new Model.Fault(what, place);
    }

    private void expect(String wanted) {
        if (!token.equals(wanted)) {
            throw fault(1);
        }
        next();
    }

    private int number(int least, int most) {
        if (!token.matches("[0-9]{1,4}")) {
            throw fault(1);
        }
        int number = Integer.parseInt(token);
        if (number < least || number > most) {
            throw fault(2);
        }
        next();
        return number;
    }

    TreeSet<Model.Cell> shape() {
        TreeSet<Model.Cell> shape = new TreeSet<>();
        for (int lines = 1; !token.equals("\uffff"); lines++) {
            String word = token;
            int wordPlace = place;
            if (!List.of("cell", "row", "pile", "hole").contains(word)) {
                throw fault(1);
            }
            if (lines > 32) {
                throw fault(3);
            }
            next();
            int x = number(0, 7);
            int y = number(0, 7);
            if (word.equals("cell")) {
                shape.add(new Model.Cell(x, y));
            } else if (word.equals("hole")) {
                shape.remove(new Model.Cell(x, y));
            } else if (word.equals("row")) {
                int many = number(1, 8 - x);
                for (int i = 0; i < many; i++) {
                    shape.add(new Model.Cell(x + i, y));
                }
            } else {
                int many = number(1, 8 - y);
                for (int i = 0; i < many; i++) {
                    shape.add(new Model.Cell(x, y + i));
                }
            }
            if (shape.size() > 24) {
                throw new Model.Fault(3, wordPlace);
            }
            expect(";");
        }
        return shape;
    }

    List<Model.Line> rule() {
        List<Model.Line> lines = new ArrayList<>();
        while (!token.equals("\uffff")) {
            int way = Model.WAYS.indexOf(token);
            if (way < 0) {
                throw fault(1);
            }
            if (lines.size() == 16) {
                throw fault(3);
            }
            next();
            int by = way == 1 ? number(0, 9999) : 0;
            ToIntFunction<int[]> when = null;
            if (token.equals("when")) {
                next();
                when = any(0);
            }
            expect(";");
            lines.add(new Model.Line(way, by, when));
        }
        return lines;
    }

    private ToIntFunction<int[]> any(int open) {
        ToIntFunction<int[]> first = all(open);
        if (!token.equals("or")) {
            return first;
        }
        next();
        ToIntFunction<int[]> rest = any(open);
        return values -> first.applyAsInt(values) == 1 || rest.applyAsInt(values) == 1 ? 1 : 0;
    }

    private ToIntFunction<int[]> all(int open) {
        ToIntFunction<int[]> first = condition(open);
        if (!token.equals("and")) {
            return first;
        }
        next();
        ToIntFunction<int[]> rest = all(open);
        return values -> first.applyAsInt(values) == 1 && rest.applyAsInt(values) == 1 ? 1 : 0;
    }

    private ToIntFunction<int[]> condition(int open) {
        if (token.equals("not") || token.equals("(")) {
            if (open == 8) {
                throw fault(3);
            }
            boolean not = token.equals("not");
            next();
            ToIntFunction<int[]> inner = not ? condition(open + 1) : any(open + 1);
            if (not) {
                return values -> 1 - inner.applyAsInt(values);
            }
            expect(")");
            return inner;
        }
        ToIntFunction<int[]> a = sum();
        String sign = token;
        if (!List.of("<", "=", ">").contains(sign)) {
            throw fault(1);
        }
        next();
        ToIntFunction<int[]> b = sum();
        return values -> {
            int order = Integer.compare(a.applyAsInt(values), b.applyAsInt(values));
            return (sign.equals("<") ? order < 0 : sign.equals("=") ? order == 0 : order > 0) ? 1 : 0;
        };
    }

    private ToIntFunction<int[]> sum() {
        ToIntFunction<int[]> sum = product();
        while (token.equals("+") || token.equals("-")) {
            int factor = token.equals("+") ? 1 : -1;
            next();
            ToIntFunction<int[]> before = sum;
            ToIntFunction<int[]> more = product();
            sum = values -> before.applyAsInt(values) + factor * more.applyAsInt(values);
        }
        return sum;
    }

    private ToIntFunction<int[]> product() {
        ToIntFunction<int[]> product = unit();
        while (token.equals("*") || token.equals("/")) {
            boolean divides = token.equals("/");
            next();
            ToIntFunction<int[]> before = product;
            if (divides) {
                int divisor = number(1, 9999);
                product = values -> before.applyAsInt(values) / divisor;
            } else {
                ToIntFunction<int[]> factor = unit();
                product = values -> before.applyAsInt(values) * factor.applyAsInt(values);
            }
        }
        return product;
    }

    private ToIntFunction<int[]> unit() {
        int value = Model.VALUES.indexOf(token);
        if (value >= 0) {
            next();
            return values -> values[value];
        }
        int number = number(0, 9999);
        return values -> number;
    }
}
