import java.io.IOException;
import java.lang.reflect.Field;
import java.lang.reflect.Method;
import java.lang.reflect.Modifier;
import java.nio.file.Files;
import java.nio.file.Path;
import java.util.List;
import java.util.regex.Matcher;
import java.util.regex.Pattern;

/** README.md: its example answers what it says, and no member of the face is left out. */
public final class ReadmeTest {
    private static final Pattern EXAMPLE = Pattern.compile("desk\\.(\\w+)\\((.*)\\);\\s*// (-?\\w+)(:.*)?");

    public static void main(String[] args) throws IOException, ReflectiveOperationException {
        List<String> lines = Files.readAllLines(Path.of("README.md"));
        example(lines);
        face(String.join("\n", lines));
        Due.finish();
    }

    private static void example(List<String> lines) throws ReflectiveOperationException {
        HandleDesk desk = new HandleDesk();
        int calls = 0;
        for (String line : lines) {
            if (line.startsWith("desk.")) {
                Matcher m = EXAMPLE.matcher(line);
                Due.due("README: the form of " + line, m.matches(), true);
                if (m.matches()) {
                    calls++;
                    Due.due("README: " + line, answer(desk, m.group(1), m.group(2)), number(m.group(3)));
                }
            }
        }
        Due.due("README: an example is there", calls > 0, true);
    }

    private static long answer(HandleDesk desk, String name, String written) throws ReflectiveOperationException {
        String[] words = written.isEmpty() ? new String[0] : written.split(", ");
        Class<?>[] types = new Class<?>[words.length];
        Object[] values = new Object[words.length];
        for (int i = 0; i < words.length; i++) {
            boolean truth = words[i].equals("true") || words[i].equals("false");
            types[i] = truth ? boolean.class : int.class;
            values[i] = truth ? (Object) Boolean.valueOf(words[i]) : (Object) Integer.valueOf(words[i]);
        }
        Object got = HandleDesk.class.getMethod(name, types).invoke(desk, values);
        return number(String.valueOf(got));
    }

    private static long number(String word) throws ReflectiveOperationException {
        if (word.equals("true") || word.equals("false")) {
            return word.equals("true") ? 1 : 0;
        }
        boolean constant = Character.isUpperCase(word.charAt(0));
        return constant ? HandleDesk.class.getField(word).getInt(null) : Long.parseLong(word);
    }

    private static void face(String text) throws ReflectiveOperationException {
        Due.due("README tells of new HandleDesk()", text.contains("`new HandleDesk()`"), true);
        for (Method m : HandleDesk.class.getDeclaredMethods()) {
            if (Modifier.isPublic(m.getModifiers())) {
                Due.due("README tells of " + m.getName(), row(text, m.getName(), m.getParameterCount()), true);
            }
        }
        for (Field f : HandleDesk.class.getFields()) {
            String row = "| `" + f.getName() + "` | " + f.getInt(null) + " |";
            Due.due("README tells of " + f.getName(), text.contains(row), true);
        }
    }

    private static boolean row(String text, String name, int parameters) {
        String given = parameters == 0 ? "" : "\\w+" + ", \\w+".repeat(parameters - 1);
        return Pattern.compile("\\| `" + name + "\\(" + given + "\\)` \\|").matcher(text).find();
    }
}
