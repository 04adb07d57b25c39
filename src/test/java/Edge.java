import java.io.IOException;
import java.lang.reflect.InvocationTargetException;
import java.lang.reflect.Method;
import java.nio.file.Files;
import java.nio.file.Path;
import java.util.ArrayList;
import java.util.Arrays;
import java.util.Comparator;
import java.util.List;

/** Runs cases, each a method about one sentence of the document, and holds the sentences against it. */
final class Edge {
    /** Stands for the part of the document ahead of the promises. */
    static final int TERMS = 0;

    private static final List<Integer> PROMISES = new ArrayList<>();
    private static final List<String> SENTENCES = new ArrayList<>();
    private static int cases;

    private Edge() {
    }

    /** A new object to talk about a sentence with; the case has its method's name. */
    static Talk of(int promise, String sentence) {
        PROMISES.add(promise);
        SENTENCES.add(sentence);
        String method = StackWalker.getInstance().walk(frames -> frames.skip(1).findFirst().get().getMethodName());
        return new Talk((promise == TERMS ? "terms, " : "promise " + promise + ", ") + method + " (" + sentence + ")");
    }

    /** As above, an object to which much has been told, so that a refused call could change much. */
    static Talk full(int promise, String sentence) {
        Talk t = of(promise, sentence);
        t.told(0, "row 0 0 3;row 0 1 3;", 6);
        t.told(1, "row 2 3 4;cell 0 0;", 5);
        t.told(2, "pile 7 0 8;", 8);
        t.told(4, "row 0 0 8;row 0 1 8;row 0 2 8;", 24);
        t.told(5, "cell 3 3;", 1);
        t.told(6, "shift 1 when year=0;mix;", 2);
        t.told(7, "back;", 1);
        for (int w = 0; w < 5; w++) {
            t.x.wall(w, w);
            t.x.fill(w, w == 4 ? 0 : 3 * w);
        }
        t.x.lay(1, 2, OldNeighbours.NONE);
        t.x.set(0, 1);
        t.x.set(1, 2);
        t.x.state(4711);
        t.due("years", true, t.x.years(0, 0, 3) >= 0);
        t.faulty(3, "cell 0 9;", 2, 7);
        t.feed("cell 6 6;");
        return t;
    }

    static void runAll(Class<?> kind) throws IllegalAccessException {
        Method[] methods = kind.getDeclaredMethods();
        Arrays.sort(methods, Comparator.comparing(Method::getName));
        for (Method method : methods) {
            if (method.getParameterCount() > 0 || method.getReturnType() != void.class || method.isSynthetic()) {
                continue;
            }
            int before = SENTENCES.size();
            try {
                method.setAccessible(true);
                method.invoke(null);
            } catch (InvocationTargetException thrown) {
                thrown.getCause().printStackTrace(System.out);
                Talk.fail(kind.getName() + "." + method.getName() + " threw");
            }
            if (SENTENCES.size() == before) {
                Talk.fail(kind.getName() + "." + method.getName() + " is about no sentence");
            }
            cases++;
        }
    }

    static int cases() {
        return cases;
    }

    /** Each sentence stands in the document at its place, and none of the document is left without a case. */
    static void holdAgainst(Path document) throws IOException {
        if (!Files.exists(document)) {
            System.out.println("no document at " + document + ": the sentences are not held against it");
            return;
        }
        String all = Files.readString(document);
        for (int promise = TERMS; promise <= 30; promise++) {
            String part = partOf(all, promise);
            String rest = part;
            for (int i = 0; i < SENTENCES.size(); i++) {
                if (PROMISES.get(i) == promise) {
                    if (!part.contains(SENTENCES.get(i))) {
                        Talk.fail("not in the document, promise " + promise + ": " + SENTENCES.get(i));
                    }
                    rest = rest.replace(SENTENCES.get(i), "");
                }
            }
            if (rest.chars().anyMatch(Character::isLetter)) {
                Talk.fail("promise " + promise + " has no case for: " + rest.strip());
            }
        }
    }

    private static String partOf(String all, int promise) {
        String heading = promise == TERMS ? "## Terms" : "## Promise " + promise + ":";
        int start = all.indexOf('\n', all.indexOf(heading));
        String part = all.substring(start, all.indexOf("\n## ", start));
        int behindFace = promise == TERMS ? 0 : part.indexOf("`:") + 2;
        String words = part.substring(behindFace).replace("```text", "").replace("```", "");
        words = words.replaceAll("==== \\d\\. ", "").replaceAll("\\s+", " ");
        return promise == TERMS ? words.replace("The constants: `NONE = -1`: None.", "") : words;
    }
}
