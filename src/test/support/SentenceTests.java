import java.lang.reflect.InvocationTargetException;
import java.lang.reflect.Method;
import java.util.ArrayList;
import java.util.Arrays;
import java.util.Comparator;
import java.util.List;

/** What the tests of the document's sentences share: their words, and how they are found and run. */
abstract class SentenceTests {
    static final Class<? extends RuntimeException> ARGUMENT = IllegalArgumentException.class;
    static final Class<? extends RuntimeException> INDEX = IndexOutOfBoundsException.class;
    static final Class<? extends RuntimeException> STATE = IllegalStateException.class;

    static final int MOST = Integer.MAX_VALUE;
    static final int LEAST = Integer.MIN_VALUE;

    static final String ONCE = "abcdefghijklmnopqrstuvwxyz.";
    static final String FULL_TEXT = ONCE + ONCE + "abcdefghij";
    static final String FULL_PATTERN = "zyxwvutsrqponmlkjihgfed.";

    static final String SEVERAL_EXCEPTIONS =
        "If several exceptions apply, the first one of the throws clause is thrown.";
    static final String CHANGES_NOTHING = "A call that throws changes nothing.";

    static Subject of(String text, String pattern) {
        return new Subject(text, pattern);
    }

    static List<Method> testsOf(Class<?> tests) {
        List<Method> found = new ArrayList<>();
        for (Method method : tests.getDeclaredMethods()) {
            if (method.isAnnotationPresent(Sentence.class)) {
                found.add(method);
            }
        }
        found.sort(Comparator.comparingInt((Method test) -> sentenceOf(test).promise()).thenComparing(Method::getName));
        return found;
    }

    static Sentence sentenceOf(Method test) {
        return test.getAnnotation(Sentence.class);
    }

    static void run(Class<?> tests) {
        List<Method> all = testsOf(tests);
        int failed = 0;
        for (Method test : all) {
            String fault = faultOf(test);
            if (!fault.isEmpty()) {
                failed++;
                System.out.println(described(test) + "\n    " + fault);
            }
        }
        System.out.println(all.size() - failed + " of " + all.size() + " tests hold");
        System.exit(failed == 0 && !all.isEmpty() ? 0 : 1);
    }

    private static String described(Method test) {
        int promise = sentenceOf(test).promise();
        String where = promise == 0 ? "ahead of the promises" : "promise " + promise;
        return test.getName() + ", " + where + ": " + sentenceOf(test).says();
    }

    /** Empty if there is none. */
    private static String faultOf(Method test) {
        try {
            test.invoke(null);
            return "";
        } catch (InvocationTargetException e) {
            return e.getCause() + lineOf(test, e.getCause());
        } catch (IllegalAccessException e) {
            return e.toString();
        }
    }

    private static String lineOf(Method test, Throwable fault) {
        return Arrays.stream(fault.getStackTrace())
            .filter(frame -> frame.getMethodName().equals(test.getName()))
            .map(frame -> " (line " + frame.getLineNumber() + ")")
            .findFirst().orElse("");
    }
}
