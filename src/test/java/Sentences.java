import java.io.IOException;
import java.lang.reflect.InvocationTargetException;
import java.lang.reflect.Method;
import java.lang.reflect.Modifier;
import java.nio.file.Files;
import java.nio.file.Path;
import java.util.Arrays;
import java.util.Comparator;

/** Runs each test that bears a Sentence; where the document is at hand, the sentence must stand in it. */
final class Sentences {
    private Sentences() {
    }

    static void testEach(Class<?> tests, Check check) throws IOException, ReflectiveOperationException {
        String[] parts = partsOfDocument();
        Method[] methods = tests.getDeclaredMethods();
        Arrays.sort(methods, Comparator.comparing(Method::getName));
        int told = 0;
        for (Method test : methods) {
            Sentence sentence = test.getAnnotation(Sentence.class);
            if (sentence != null) {
                told++;
                runOne(test, sentence, check);
                lookUp(sentence, parts, check);
            } else {
                boolean couldRun = Modifier.isStatic(test.getModifiers()) && test.getParameterCount() == 0
                    && test.getReturnType() == void.class;
                check.holds(test.getName() + " bears a sentence", !couldRun || test.getName().contains("$"));
            }
        }
        System.out.println(told + " sentences, a test of its own for each");
        check.holds("there are tests in " + tests.getName(), told > 0);
        check.end();
    }

    private static void runOne(Method test, Sentence sentence, Check check) throws ReflectiveOperationException {
        check.nowAbout(sentence.promise() + " \"" + sentence.says() + "\" (" + test.getName() + "): ");
        int before = check.looked();
        test.setAccessible(true);
        try {
            test.invoke(null);
        } catch (InvocationTargetException e) {
            check.holds("threw " + e.getCause(), false);
        }
        check.holds("looks at an answer", check.looked() > before);
    }

    private static void lookUp(Sentence sentence, String[] parts, Check check) {
        if (parts.length > 0) {
            check.holds("stands in the document",
                sentence.promise() < parts.length && parts[sentence.promise()].contains(sentence.says()));
        }
    }

    /** What stands ahead of the promises, then each promise; nothing, where there is no document. */
    private static String[] partsOfDocument() throws IOException {
        Path document = Path.of(System.getProperty("project.root", "."), "..", "shared", "DOC.md");
        if (!Files.isReadable(document)) {
            return new String[0];
        }
        return Files.readString(document).replaceAll("\\s+", " ").split("## Promise ");
    }
}
