import java.lang.reflect.InvocationTargetException;
import java.lang.reflect.Method;
import java.nio.file.Files;
import java.nio.file.Path;
import java.util.ArrayList;
import java.util.Comparator;
import java.util.List;
import java.util.Set;
import java.util.TreeSet;

/** Runs the test of each sentence; a wrong answer is told with the promise and the sentence. */
public final class SentencesTest {
    private static final Path DOCUMENT = Path.of("../shared/DOC.md");
    private static final int PROMISES = 26;
    private static final Class<?>[] ALL = {
        FormatSentences.class, RoundingSentences.class, WritingSentences.class, ReadingSentences.class,
        StateSentences.class, TextsInSentences.class, TextsOutSentences.class, NumberSentences.class
    };

    private SentencesTest() {
    }

    public static void main(String[] args) throws Exception {
        String document = joined(Files.readString(DOCUMENT));
        Set<String> parts = new TreeSet<>();
        List<Method> tests = tests();
        for (Method test : tests) {
            Says says = test.getAnnotation(Says.class);
            parts.add(says.at());
            Due.under(says.at() + ", '" + says.words() + "', " + test.getName());
            Due.holds("the words stand there", partOf(document, says.at()).contains(joined(says.words())));
            run(test);
        }
        Due.under("all sentences");
        for (int i = 1; i <= PROMISES; i++) {
            Due.holds("Promise " + i + " has tests", parts.contains("Promise " + i));
        }
        System.out.println(tests.size() + " sentences");
        Due.end(SentencesTest.class);
    }

    private static List<Method> tests() {
        List<Method> tests = new ArrayList<>();
        for (Class<?> type : ALL) {
            for (Method method : type.getDeclaredMethods()) {
                if (method.isAnnotationPresent(Says.class)) {
                    tests.add(method);
                }
            }
        }
        // the order of getDeclaredMethods is not told
        tests.sort(Comparator.comparing(method -> method.getDeclaringClass().getName() + "." + method.getName()));
        return tests;
    }

    /** A sentence whose test asks nothing, or that a call breaks off, does not hold. */
    private static void run(Method test) throws IllegalAccessException {
        int before = Due.asked();
        try {
            test.invoke(null);
        } catch (InvocationTargetException e) {
            Due.holds("no " + e.getCause(), false);
        }
        Due.holds("something was asked", Due.asked() > before);
    }

    private static String partOf(String document, String at) {
        int start = document.indexOf("## " + at + (at.startsWith("Promise") ? ":" : " "));
        if (start < 0) {
            return "";
        }
        int end = document.indexOf("## ", start + 3);
        return document.substring(start, end < 0 ? document.length() : end);
    }

    private static String joined(String text) {
        return text.replaceAll("\\s+", " ");
    }
}
