import java.io.IOException;
import java.lang.reflect.Constructor;
import java.lang.reflect.Field;
import java.lang.reflect.Method;
import java.lang.reflect.Modifier;
import java.nio.file.Files;
import java.nio.file.Path;
import java.util.ArrayList;
import java.util.HashSet;
import java.util.List;
import java.util.Set;
import java.util.TreeSet;
import java.util.regex.Matcher;
import java.util.regex.Pattern;

/** The rules of LANGUAGE.md that a program can look for, and the face of the document. */
public final class LanguageTest {
    private static final Path SOURCE = Path.of("src/main/java/OldNeighbours.java");
    private static final String FACE = "again(int,int,int,int,int):int at(int,int):int beside(int,int):int borne(int,int):int "
        + "cell(int,int,int):int door(int,int,int):int end(int):boolean fault(int):int feed(int,int,int,int,int):int "
        + "fill(int,int):boolean good(int,int,int):int history(int,int):int image(boolean):boolean judge(int,int):int "
        + "lay(int,int,int):boolean layings(int,int,int):int look(int):int met(int):int older(int,int,int):int "
        + "order(int,int,int):int parting(int,int):int red(int,int):int set(int,int):boolean spares(int):int state(int):int "
        + "text(int):int two(int,int,int):int wall(int,int):boolean years(int,int,int):int";
    private static final Set<String> LIBRARY = Set.of("Arrays.fill", "Math.min", "Math.max", "Math.floorMod", "Long.bitCount",
        "Integer.bitCount", "System.arraycopy");
    private static int wrong;

    private LanguageTest() {
    }

    public static void main(String[] args) throws IOException {
        String source = Files.readString(SOURCE);
        String code = withoutTexts(source);
        face();
        classes();
        words(source, code);
        methods(code);
        System.out.println("LanguageTest: wrong: " + wrong);
        System.exit(wrong == 0 ? 0 : 1);
    }

    private static void check(boolean right, String rule) {
        if (!right) {
            wrong++;
            System.out.println("LanguageTest: " + rule);
        }
    }

    /** Without comments, and with texts and signs emptied. */
    private static String withoutTexts(String source) {
        return source.replaceAll("(?s)/\\*.*?\\*/", " ").replaceAll("//[^\n]*", " ")
            .replaceAll("\"[^\"\n]*\"", "\"\"").replaceAll("'[^'\n]*'", "' '");
    }

    private static void face() {
        Class<?> face = OldNeighbours.class;
        check(Modifier.isPublic(face.getModifiers()) && Modifier.isFinal(face.getModifiers()), "1: public and final");
        Set<String> seen = new TreeSet<>();
        for (Method method : face.getDeclaredMethods()) {
            if (Modifier.isPublic(method.getModifiers())) {
                List<String> types = new ArrayList<>();
                for (Class<?> type : method.getParameterTypes()) {
                    types.add(type.getName());
                }
                seen.add(method.getName() + "(" + String.join(",", types) + "):" + method.getReturnType().getName());
            } else {
                check(Modifier.isPrivate(method.getModifiers()), "1: " + method.getName() + " is not private");
            }
        }
        check(String.join(" ", seen).equals(FACE), "1: the methods are " + seen);
        Constructor<?>[] constructors = face.getDeclaredConstructors();
        check(constructors.length == 1 && constructors[0].getParameterCount() == 0
            && Modifier.isPublic(constructors[0].getModifiers()), "1: one public constructor");
        for (Field field : face.getDeclaredFields()) {
            boolean isNone = field.getName().equals("NONE") && Modifier.isPublic(field.getModifiers());
            check(isNone || Modifier.isPrivate(field.getModifiers()), "1: " + field.getName() + " is not private");
        }
    }

    private static void classes() {
        Set<String> open = new HashSet<>();
        for (Method method : OldNeighbours.class.getDeclaredMethods()) {
            if (Modifier.isPublic(method.getModifiers())) {
                open.add(method.getName());
            }
        }
        Class<?>[] inner = OldNeighbours.class.getDeclaredClasses();
        check(inner.length <= 12, "11: " + inner.length + " classes");
        for (Class<?> one : inner) {
            check(Modifier.isStatic(one.getModifiers()), "2: " + one.getName() + " is not static");
            int fields = 0;
            for (Field field : one.getDeclaredFields()) {
                boolean isStatic = Modifier.isStatic(field.getModifiers());
                check(!isStatic || Modifier.isFinal(field.getModifiers()), "5: " + field + " is not final");
                fields += isStatic ? 0 : 1;
            }
            check(fields <= 20, "11: " + fields + " fields in " + one.getName());
            for (Method method : one.getDeclaredMethods()) {
                check(!open.contains(method.getName()), "1: a second " + method.getName());
                check(method.getParameterCount() <= 7, "11: parameters of " + method.getName());
            }
        }
    }

    private static void words(String source, String code) {
        for (String word : "throw throws try catch finally synchronized assert instanceof native volatile transient var yield record"
            .split(" ")) {
            check(!Pattern.compile("\\b" + word + "\\b").matcher(code).find(), "6: " + word);
        }
        for (String sign : List.of("->", "::", "@", "...")) {
            check(!code.contains(sign), "2: " + sign);
        }
        check(!Pattern.compile("static\\s*\\{").matcher(code).find(), "5: a static block");
        check(!Pattern.compile("\"\"\\s*\\+|\\+\\s*\"\"").matcher(code).find(), "10: texts joined by +");
        check(code.split("\\bimport\\b", -1).length == 2 && code.contains("import java.util.Arrays;"), "4: imports");
        check(source.chars().allMatch(sign -> sign == '\n' || sign >= 32 && sign < 127), "4: a sign above 127");
        Matcher calls = Pattern.compile("\\b(Arrays|Math|Long|Integer|System|String|Character)\\s*\\.\\s*(\\w+)").matcher(code);
        while (calls.find()) {
            String call = calls.group(1) + "." + calls.group(2);
            check(LIBRARY.contains(call), "4: " + call);
        }
        // All rows are made with their object, so that no call makes anything.
        Matcher made = Pattern.compile("\\n( *)(.*)\\bnew ").matcher(code);
        while (made.find()) {
            String line = made.group(2);
            boolean ahead = line.startsWith("private final ") || line.startsWith("walls[i] =") || line.startsWith("rules[i] =");
            check(ahead, "12: made later: " + line);
        }
    }

    private static void methods(String code) {
        String[] lines = code.split("\n");
        int start = -1;
        String name = "";
        for (int i = 0; i < lines.length; i++) {
            if (lines[i].matches(" {4,8}(private|public) .*\\(.*\\) \\{")) {
                start = i;
                name = lines[i].trim();
            } else if (start >= 0 && lines[i].matches(" {4,8}\\}")) {
                check(i - start <= 60, "11: " + (i - start) + " lines: " + name);
                start = -1;
            }
            check(lines[i].length() <= 140, "a long line: " + (i + 1));
        }
    }
}
