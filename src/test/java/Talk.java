import java.util.function.BooleanSupplier;
import java.util.function.IntSupplier;

/** An object of the class, with texts told as texts, and a count of answers that are not due. */
final class Talk {
    final OldNeighbours x = new OldNeighbours();
    private static int checks;
    private static int wrong;
    private final String name;

    Talk(String name) {
        this.name = name;
    }

    static boolean allRight(String test) {
        System.out.println(test + ": " + checks + " answers, wrong ones: " + wrong);
        return wrong == 0 && checks > 0;
    }

    void due(String call, int want, int got) {
        checks++;
        if (got != want) {
            wrong++;
            System.out.println(name + ": " + call + " answered " + got + ", due is " + want);
        }
    }

    static void fail(String what) {
        checks++;
        wrong++;
        System.out.println(what);
    }

    /** The call is refused by that answer, and nothing that can be asked for is otherwise then. */
    void refused(String call, int want, IntSupplier asked) {
        String before = Sight.of(x);
        due(call, want, asked.getAsInt());
        due(call + " changes something", before.equals(Sight.of(x)) ? 0 : 1, 0);
    }

    void refused(String call, BooleanSupplier asked) {
        refused(call, 0, () -> asked.getAsBoolean() ? 1 : 0);
    }

    void due(String call, boolean want, boolean got) {
        due(call, want ? 1 : 0, got ? 1 : 0);
    }

    /** The tape has the text alone, at most 400 signs. */
    void feed(String text) {
        x.end(0);
        StringBuilder padded = new StringBuilder(text);
        while (padded.length() % 20 != 0) {
            padded.append('#');
        }
        for (int i = 0; i < padded.length(); i += 20) {
            x.feed(four(padded, i), four(padded, i + 4), four(padded, i + 8), four(padded, i + 12), four(padded, i + 16));
        }
        x.end(text.length());
    }

    private static int four(CharSequence text, int i) {
        return text.charAt(i) << 24 | text.charAt(i + 1) << 16 | text.charAt(i + 2) << 8 | text.charAt(i + 3);
    }

    int tell(int k, String text) {
        feed(text);
        return x.text(k);
    }

    /** A text without a fault. */
    void told(int k, String text, int want) {
        due("text " + k + " \"" + text + "\"", want, tell(k, text));
        due("fault 0 of \"" + text + "\"", 0, x.fault(0));
        due("fault 1 of \"" + text + "\"", -1, x.fault(1));
    }

    void faulty(int k, String text, int fault, int place) {
        due("text " + k + " \"" + text + "\"", -1, tell(k, text));
        due("fault 0 of \"" + text + "\"", fault, x.fault(0));
        due("fault 1 of \"" + text + "\"", place, x.fault(1));
    }

    /** A wall of a shape with bricks by cells, -1 for none. */
    void bricks(int w, int shape, int... row) {
        due("wall " + w, true, x.wall(w, shape));
        for (int i = 0; i < row.length; i++) {
            due("lay " + w + " " + i + " " + row[i], true, x.lay(w, i, row[i]));
        }
    }

    void stands(String what, int w, int... row) {
        due(what + ": cells of wall " + w, row.length, x.look(20 + w));
        for (int i = 0; i < row.length; i++) {
            due(what + ": at " + w + " " + i, row[i], x.at(w, i));
        }
    }
}
