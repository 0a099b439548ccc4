import java.io.IOException;
import java.lang.reflect.Field;
import java.lang.reflect.Method;
import java.lang.reflect.Modifier;
import java.nio.charset.StandardCharsets;
import java.nio.file.Files;
import java.nio.file.Path;
import java.util.List;
import java.util.Set;
import java.util.TreeSet;
import java.util.regex.Matcher;
import java.util.regex.Pattern;

/** What of ../shared/LANGUAGE.md can be seen in the program's words and in its face. */
public final class LanguageTest {
    private static final Due DUE = new Due();
    private static final Path PROGRAM = Path.of("src/main/java/HorsesChoose.java");
    private static final Set<String> FACE = Set.of(
            "int write(int)", "int wipe()", "int fault()", "int fair()", "int about(int)", "int horse(int,int)",
            "int rider(int,int)", "int worth(int,int)", "int lead(int,int)", "int dress(int,int)",
            "int giveBack(int)", "int bell()", "int undo()", "int bolts(int,int)", "int held(int,boolean)",
            "int holds()", "int sure(int)", "int forged(int,int,int)", "int left()", "int race()",
            "int raceOf(int)", "int choose(int,int)", "int unchoose()", "int learnt(int)", "int next()",
            "int oats(int,int,int,int)", "int saddles(int,int,int,int)", "int chance(int,int,int,boolean)",
            "long seed(long)", "int days(int)", "int keep(int)", "int again(int)");

    public static void main(String[] args) throws IOException {
        String code = Files.readString(PROGRAM, StandardCharsets.ISO_8859_1);
        String bare = code.replaceAll("(?s)/\\*.*?\\*/", "").replaceAll("//.*", "").replaceAll("'.'", "0");
        words(code, bare);
        face();
        insides();
        lengths(bare);
        DUE.end();
    }

    private static void words(String code, String bare) {
        DUE.due("signs above 127", code.chars().filter(c -> c > 127).count(), 0);
        for (String word : List.of("throw", "throws", "try", "catch", "finally", "synchronized", "assert", "package",
                "Exact", "equals", "hashCode", "toString", "System.out", "Random", "Object")) {
            DUE.due("the word " + word, count(bare, "\\b" + Pattern.quote(word) + "\\b"), 0);
        }
        DUE.due("lambdas and references", count(bare, "->|::"), 0);
        DUE.due("texts", count(bare, "\""), 0);
        DUE.due("imports but java.util.Arrays", count(bare, "\\bimport\\b(?! java\\.util\\.Arrays;)"), 0);
        DUE.due("loops without a counter", count(bare, "\\bwhile\\b|\\bdo\\b|for \\(;"), 0);
        DUE.due("objects made outside constructors and fields",
                count(bare, "(?m)^ *(?!private final)\\S.*=.*\\bnew (?!\\w+\\(\\);|Worths|Market|Ways|State\\[)"), 0);
    }

    private static long count(String text, String pattern) {
        return Pattern.compile(pattern).matcher(text).results().count();
    }

    private static String signOf(Method method) {
        List<String> types = List.of(method.getParameterTypes()).stream().map(Class::getSimpleName).toList();
        return method.getReturnType().getSimpleName() + " " + method.getName() + "(" + String.join(",", types) + ")";
    }

    private static void face() {
        Set<String> found = new TreeSet<>();
        Set<String> publicNames = new TreeSet<>();
        Class<?> program = HorsesChoose.class;
        for (Method method : program.getDeclaredMethods()) {
            if (!Modifier.isPrivate(method.getModifiers())) {
                DUE.due("public: " + signOf(method), method.getModifiers(), Modifier.PUBLIC);
                found.add(signOf(method));
                publicNames.add(method.getName());
            }
        }
        DUE.due("the face " + found, found.equals(FACE) ? 1 : 0, 1);
        for (Method method : program.getDeclaredMethods()) {
            boolean shares = Modifier.isPrivate(method.getModifiers()) && publicNames.contains(method.getName());
            DUE.due("private of a public one's name: " + method, shares ? 1 : 0, 0);
        }
        DUE.due("public and final", program.getModifiers(), Modifier.PUBLIC | Modifier.FINAL);
        DUE.due("constructors", program.getDeclaredConstructors().length, 1);
        DUE.due("public constructors", program.getConstructors().length, 1);
        DUE.due("public fields", program.getFields().length, 5);
        DUE.due("UNKNOWN", HorsesChoose.UNKNOWN, -1);
        DUE.due("BAD", HorsesChoose.BAD, -2);
        DUE.due("LATE", HorsesChoose.LATE, -3);
        DUE.due("FULL", HorsesChoose.FULL, -4);
        DUE.due("NONE", HorsesChoose.NONE, -9);
    }

    private static void insides() {
        DUE.due("more than 12 classes", HorsesChoose.class.getDeclaredClasses().length > 11 ? 1 : 0, 0);
        fields(HorsesChoose.class);
        for (Class<?> inside : HorsesChoose.class.getDeclaredClasses()) {
            DUE.due("static: " + inside, Modifier.isStatic(inside.getModifiers()) ? 1 : 0, 1);
            DUE.due("public: " + inside, Modifier.isPublic(inside.getModifiers()) ? 1 : 0, 0);
            fields(inside);
        }
    }

    private static void fields(Class<?> type) {
        int own = 0;
        for (Field field : type.getDeclaredFields()) {
            int modifiers = field.getModifiers();
            if (Modifier.isStatic(modifiers)) {
                DUE.due("final: " + field, Modifier.isFinal(modifiers) ? 1 : 0, 1);
            } else {
                own++;
                boolean hidden = Modifier.isPrivate(modifiers) || type != HorsesChoose.class;
                DUE.due("private: " + field, hidden ? 1 : 0, 1);
            }
        }
        DUE.due("more than 20 fields in " + type, own > 20 ? 1 : 0, 0);
    }

    /** A method starts on a line that ends with ") {" and ends on the brace below its first sign. */
    private static void lengths(String bare) {
        Matcher method = Pattern.compile("(?m)^( +)(?!if|for|while|switch|\\})[^\\n;=]*\\([^\\n;]*\\) \\{\\n(?s:(.*?))^\\1\\}")
                .matcher(bare);
        int methods = 0;
        while (method.find()) {
            methods++;
            long lines = method.group(2).lines().count();
            DUE.due("lines of " + method.group().lines().findFirst().orElse("").trim(), lines > 58 ? lines : 0, 0);
        }
        DUE.due("methods are found", methods > 80 ? 1 : 0, 1);
    }
}
