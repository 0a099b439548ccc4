import java.io.IOException;
import java.lang.reflect.Method;
import java.lang.reflect.Modifier;
import java.nio.file.Files;
import java.nio.file.Path;
import java.util.Set;
import java.util.TreeSet;
import java.util.regex.Matcher;
import java.util.regex.Pattern;

/** README.md makes calls and tells their answers: all of them are so, and no call of the face is missing. */
public final class ReadmeTest {
    private static final Due DUE = new Due();
    private static final Pattern TEXT = Pattern.compile("String text = \"(\\w+)\";");
    private static final Pattern CALL = Pattern.compile("(?m)^x\\.(\\w+)\\(([^)]*)\\); +// (-?\\d+)(?:: .*)?$");

    public static void main(String[] args) throws ReflectiveOperationException, IOException {
        String readme = Files.readString(Path.of("README.md"));
        Matcher text = TEXT.matcher(readme);
        DUE.due("README tells a text", text.find() ? 1 : 0, 1);
        HorsesChoose x = new HorsesChoose();
        Due.write(x, text.group(1));
        Set<String> shown = new TreeSet<>(Set.of("write"));
        Matcher call = CALL.matcher(readme);
        while (call.find()) {
            shown.add(call.group(1));
            DUE.due(call.group(), answer(x, call.group(1), call.group(2)), Long.parseLong(call.group(3)));
        }
        DUE.due("calls told in another form", readme.lines().filter(line -> line.startsWith("x.")).count(),
                CALL.matcher(readme).results().count());
        for (Method method : HorsesChoose.class.getDeclaredMethods()) {
            boolean hidden = !Modifier.isPublic(method.getModifiers());
            DUE.due("README shows " + method.getName(), hidden || shown.contains(method.getName()) ? 1 : 0, 1);
        }
        DUE.end();
    }

    private static long answer(HorsesChoose x, String name, String told) throws ReflectiveOperationException {
        String[] words = told.isEmpty() ? new String[0] : told.split(", ");
        Class<?>[] types = new Class<?>[words.length];
        Object[] values = new Object[words.length];
        for (int i = 0; i < words.length; i++) {
            boolean truth = words[i].equals("true") || words[i].equals("false");
            types[i] = truth ? boolean.class : name.equals("seed") ? long.class : int.class;
            if (truth) {
                values[i] = words[i].equals("true");
            } else if (name.equals("seed")) {
                values[i] = Long.parseLong(words[i]);
            } else {
                values[i] = Integer.parseInt(words[i]);
            }
        }
        return ((Number) HorsesChoose.class.getMethod(name, types).invoke(x, values)).longValue();
    }
}
