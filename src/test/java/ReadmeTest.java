import java.io.IOException;
import java.lang.reflect.Method;
import java.lang.reflect.Modifier;
import java.nio.file.Files;
import java.nio.file.Path;
import java.util.HashMap;
import java.util.Map;
import java.util.regex.Matcher;
import java.util.regex.Pattern;

/** The example of README.md answers as it says, and README.md names every call of the face. */
public final class ReadmeTest {
    private static final Check check = new Check();
    private static final Pattern ROW = Pattern.compile("x\\.(\\w+)\\((.*?)\\);\\s*// (-?\\d+).*");
    private static final int LEAST_ROWS = 20;

    public static void main(String[] args) throws IOException, ReflectiveOperationException {
        String page = Files.readString(Path.of(System.getProperty("project.root", "."), "README.md"));
        Map<String, Method> face = face();
        for (String name : face.keySet()) {
            check.holds("README.md names " + name, page.contains("`" + name + "`"));
        }
        Matcher block = Pattern.compile("(?s)```java\n(.*?)```").matcher(page);
        check.holds("README.md has an example", block.find());
        example(block.group(1), face);
        check.end();
    }

    private static Map<String, Method> face() {
        Map<String, Method> face = new HashMap<>();
        for (Method m : WithEyesBound.class.getDeclaredMethods()) {
            if (Modifier.isPublic(m.getModifiers())) {
                face.put(m.getName(), m);
            }
        }
        return face;
    }

    private static void example(String code, Map<String, Method> face) throws ReflectiveOperationException {
        WithEyesBound x = new WithEyesBound();
        int rows = 0;
        for (String line : code.split("\n")) {
            if (line.startsWith("x.")) {
                Matcher row = ROW.matcher(line);
                check.holds("tells what it answers: " + line, row.matches());
                Method call = face.get(row.group(1));
                long got = ((Number) call.invoke(x, numbers(row.group(2), call))).longValue();
                check.due(line, got, Long.parseLong(row.group(3)));
                rows++;
            }
        }
        check.holds("the example has rows: " + rows, rows >= LEAST_ROWS);
    }

    private static Object[] numbers(String told, Method call) {
        Class<?>[] types = call.getParameterTypes();
        String[] words = told.isEmpty() ? new String[0] : told.split(", ");
        check.due(call.getName() + " takes", words.length, types.length);
        Object[] numbers = new Object[types.length];
        for (int i = 0; i < types.length; i++) {
            long number = Long.parseLong(words[i].replace("L", ""));
            numbers[i] = types[i] == long.class ? (Object) number : (Object) (int) number;
        }
        return numbers;
    }
}
