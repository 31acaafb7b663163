import java.io.IOException;
import java.lang.reflect.Constructor;
import java.lang.reflect.Field;
import java.lang.reflect.Method;
import java.lang.reflect.Modifier;
import java.nio.file.Files;
import java.nio.file.Path;
import java.util.Arrays;
import java.util.Set;
import java.util.TreeSet;
import java.util.regex.Matcher;
import java.util.regex.Pattern;

/** The public face as the document tells it, and what of LANGUAGE.md a test can see. */
public final class LanguageTest {
    private static final Check check = new Check();
    private static final String[] FACE = {
        "int letters(long)", "int blank()", "int fault()", "int ring()", "int cell(int)", "int set(int,int)",
        "int lost()", "int turned(int)", "int step(int,int)", "int heard(int,int,int)", "long odds(int,int)",
        "long ways(int,int)", "int likeliest()", "long knows(int)", "long expected(int,int,int,int,int)",
        "int next(int,int,int)", "long post(int,int,int)", "int player(int,int,int,int,int)", "int as(int,int)",
        "int about(int,int)", "int move(int,int)", "int game(int,int,int,int,int,int)",
        "int lasts(int,int,int,int,int)", "int stand(int,int,int,int,int,int)", "int feels(int,int,int)",
        "int jackets(int,int,int)", "int named(int,int,int,int,int)", "int says(int,int,int)",
        "int when(int,int,int,int,int)", "int image()", "int restore()", "int count(int)", "long digest()"};
    private static final String[] FORBIDDEN = {
        "throw", "try", "catch", "finally", "synchronized", "assert", "var", "System\\.out", "double", "float",
        "package", "protected", "->", "::", "static \\{", "while", "Object", "equals", "hashCode", "toString",
        "Exact\\("};

    public static void main(String[] args) throws IOException, ClassNotFoundException {
        face();
        members();
        String root = System.getProperty("project.root", ".");
        String source = Files.readString(Path.of(root, "src/main/java/WithEyesBound.java"));
        signs(source);
        words(source);
        lengths(source);
        check.end();
    }

    private static void face() {
        Set<String> methods = new TreeSet<>();
        for (Method m : WithEyesBound.class.getDeclaredMethods()) {
            if (!Modifier.isPrivate(m.getModifiers())) {
                check.holds("1 public: " + m, Modifier.isPublic(m.getModifiers()) && !Modifier.isStatic(m.getModifiers()));
                String types = String.join(",", Arrays.stream(m.getParameterTypes()).map(Class::getName).toList());
                methods.add(m.getReturnType().getName() + " " + m.getName() + "(" + types + ")");
            }
        }
        check.holds("1 the methods are " + methods, methods.equals(new TreeSet<>(Arrays.asList(FACE))));
        Set<String> fields = new TreeSet<>();
        for (Field f : WithEyesBound.class.getDeclaredFields()) {
            if (!Modifier.isPrivate(f.getModifiers())) {
                check.holds("1 a constant: " + f, f.toString().startsWith("public static final int "));
                fields.add(f.getName());
            }
        }
        check.holds("1 the constants are " + fields,
            fields.equals(new TreeSet<>(Arrays.asList("NONE", "UNKNOWN", "OUTSIDE", "STATE", "FULL"))));
        check.due("1 NONE", WithEyesBound.NONE, -1);
        check.due("1 UNKNOWN", WithEyesBound.UNKNOWN, -101);
        check.due("1 OUTSIDE", WithEyesBound.OUTSIDE, -102);
        check.due("1 STATE", WithEyesBound.STATE, -103);
        check.due("1 FULL", WithEyesBound.FULL, -104);
        Constructor<?>[] made = WithEyesBound.class.getDeclaredConstructors();
        check.due("1 constructors", made.length, 1);
        check.holds("1 the constructor", Modifier.isPublic(made[0].getModifiers()) && made[0].getParameterCount() == 0);
        check.due("1 the class", WithEyesBound.class.getModifiers(), Modifier.PUBLIC | Modifier.FINAL);
    }

    private static void members() {
        Set<String> faceNames = new TreeSet<>();
        for (String method : FACE) {
            faceNames.add(method.replaceAll(".* |\\(.*", ""));
        }
        Class<?>[] inside = WithEyesBound.class.getDeclaredClasses();
        check.holds("11 classes: " + (inside.length + 1), inside.length + 1 <= 12);
        for (Class<?> c : inside) {
            check.holds("2 static: " + c, Modifier.isStatic(c.getModifiers()) && !Modifier.isPublic(c.getModifiers()));
            membersOf(c, faceNames);
        }
        for (Method m : WithEyesBound.class.getDeclaredMethods()) {
            check.holds("1 a private name: " + m, !Modifier.isPrivate(m.getModifiers()) || !faceNames.contains(m.getName()));
        }
        membersOf(WithEyesBound.class, Set.of());
    }

    private static void membersOf(Class<?> c, Set<String> faceNames) {
        int fields = 0;
        for (Field f : c.getDeclaredFields()) {
            boolean fixed = Modifier.isStatic(f.getModifiers());
            check.holds("5 final: " + f, !fixed || Modifier.isFinal(f.getModifiers()));
            fields += fixed ? 0 : 1;
        }
        check.holds("11 fields of " + c + ": " + fields, fields <= 20);
        for (Method m : c.getDeclaredMethods()) {
            check.holds("11 parameters: " + m, m.getParameterCount() <= 7);
            check.holds("1 a name of the face: " + m, !faceNames.contains(m.getName()));
        }
    }

    private static void signs(String source) {
        for (int i = 0; i < source.length(); i++) {
            if (source.charAt(i) > 126) {
                check.holds("4 a sign above 126 at " + i, false);
            }
        }
    }

    private static void words(String source) {
        String code = source.replaceAll("(?s)/\\*.*?\\*/", "").replaceAll("//[^\n]*", "");
        for (String word : FORBIDDEN) {
            String edge = Character.isLetter(word.charAt(0)) ? "\\b" : "";
            check.holds("no " + word, !Pattern.compile(edge + word + (word.endsWith("(") ? "" : edge)).matcher(code).find());
        }
        Matcher imports = Pattern.compile("import ([^;]*);").matcher(code);
        while (imports.find()) {
            check.holds("4 import " + imports.group(1), imports.group(1).equals("java.util.Arrays"));
        }
    }

    private static void lengths(String source) {
        String[] lines = source.split("\n");
        int from = -1;
        String indent = "";
        for (int i = 0; i < lines.length; i++) {
            Matcher head = Pattern.compile("^( +)[a-zA-Z].*\\) \\{$").matcher(lines[i]);
            if (from < 0 && head.matches() && !lines[i].contains(" new ")) {
                from = i;
                indent = head.group(1);
            } else if (from >= 0 && lines[i].equals(indent + "}")) {
                check.holds("11 lines of " + lines[from], i - from + 1 <= 60);
                from = -1;
            }
        }
    }
}
