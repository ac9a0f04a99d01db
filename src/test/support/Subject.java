import java.lang.reflect.InvocationTargetException;
import java.lang.reflect.Method;
import java.util.ArrayList;
import java.util.Arrays;
import java.util.HashMap;
import java.util.List;
import java.util.Map;
import java.util.stream.Collectors;

/**
 * A BlankMatcher whose calls are counted and kept, so that the same object can be made again. A test
 * looks at such copies where looking would cost calls or changes: an object answers 512 calls alone.
 */
final class Subject {
    private static final int CALLS = 512;
    private static final Map<String, Method> METHODS = new HashMap<>();

    static {
        for (Method method : BlankMatcher.class.getMethods()) {
            METHODS.put(method.getName(), method);
        }
    }

    private record Made(String name, int[] numbers) {
        @Override
        public String toString() {
            return name + Arrays.stream(numbers).mapToObj(String::valueOf).collect(Collectors.joining(", ", "(", ")"));
        }
    }

    private final BlankMatcher matcher = new BlankMatcher();
    private final List<Made> answered = new ArrayList<>();
    private int calls = 0;

    /** Letters are written by their signs, the blank by a point. */
    Subject(String text, String pattern) {
        for (char sign : text.toCharArray()) {
            make("appendText", symbol(sign));
        }
        for (char sign : pattern.toCharArray()) {
            make("appendPattern", symbol(sign));
        }
        if (answered.size() != text.length() + pattern.length()) {
            throw new AssertionError("refuses some symbols of '" + text + "' or '" + pattern + "'");
        }
    }

    int callsLeft() {
        return CALLS - calls;
    }

    /** A boolean counts as 1 or 0. */
    void due(int want, String name, int... numbers) {
        Made made = new Made(name, numbers);
        String got = make(made);
        if (!got.equals(String.valueOf(want))) {
            throw new AssertionError(made + " answered " + got + ", due is " + want);
        }
    }

    /** Asks for just this class: one below it would be thrown by the machine. Looks at all answers behind it. */
    void refused(Class<? extends RuntimeException> want, String name, int... numbers) {
        Made made = new Made(name, numbers);
        String got = make(made);
        if (!got.equals(want.getName())) {
            throw new AssertionError(made + " answered " + got + ", due is " + want.getName());
        }
        changesNothing(name, numbers);
    }

    /** Refused for each of the numbers, the one argument of the call. */
    void refusedEach(Class<? extends RuntimeException> want, String name, int... numbers) {
        for (int number : numbers) {
            refused(want, name, number);
        }
    }

    /** Compares an object that has had the call with one that has not. */
    void changesNothing(String name, int... numbers) {
        Made made = new Made(name, numbers);
        Subject with = again();
        with.make(made);
        List<String> got = with.allAnswers();
        List<String> want = again().allAnswers();
        for (int i = 0; i < want.size(); i++) {
            if (!got.get(i).equals(want.get(i))) {
                throw new AssertionError("after " + made + ": " + got.get(i) + ", and without it: " + want.get(i));
            }
        }
    }

    void holds(String text, String pattern) {
        Subject copy = again();
        String gotText = copy.signs("setText", copy.number("textLength"));
        String gotPattern = copy.signs("setPattern", copy.number("patternLength"));
        if (!gotText.equals(text) || !gotPattern.equals(pattern)) {
            throw new AssertionError("holds '" + gotText + "' and '" + gotPattern + "', due are '" + text + "' and '"
                + pattern + "'");
        }
    }

    private static int symbol(char sign) {
        return sign == '.' ? 0 : sign - 'a' + 1;
    }

    private static char sign(int symbol) {
        return symbol == 0 ? '.' : (char) ('a' + symbol - 1);
    }

    private Subject again() {
        Subject copy = new Subject("", "");
        answered.forEach(copy::make);
        return copy;
    }

    private String make(Made made) {
        if (calls == CALLS) {
            throw new AssertionError("the test makes more than " + CALLS + " calls on one object");
        }
        calls++;
        Object[] boxed = Arrays.stream(made.numbers()).boxed().toArray();
        try {
            Object answer = METHODS.get(made.name()).invoke(matcher, boxed);
            answered.add(made);
            return answer instanceof Boolean flag ? (flag ? "1" : "0") : answer.toString();
        } catch (InvocationTargetException e) {
            return e.getCause().getClass().getName();
        } catch (IllegalAccessException e) {
            throw new AssertionError(e);
        }
    }

    private String make(String name, int... numbers) {
        return make(new Made(name, numbers));
    }

    private int number(String name) {
        return Integer.parseInt(make(name));
    }

    /** Reads symbols by replacing them: nothing else tells them one by one. */
    private String signs(String replace, int length) {
        StringBuilder read = new StringBuilder();
        for (int index = 0; index < length; index++) {
            read.append(sign(Integer.parseInt(make(replace, index, 0))));
        }
        return read.toString();
    }

    /** What the object answers to about 320 calls; it has other symbols behind them. */
    private List<String> allAnswers() {
        List<String> answers = new ArrayList<>();
        for (String name : List.of("textLength", "patternLength", "places", "matches", "apart", "sumMatches",
                "orderMatches", "leastPeriod")) {
            answers.add(name + "() " + make(name));
        }
        addAnswers(answers, "within", 3);
        addAnswers(answers, "product", 87);
        addAnswers(answers, "mismatches", 65);
        addAnswers(answers, "ranked", 65);
        answers.add("the text '" + signs("setText", number("textLength")) + "'");
        answers.add("the pattern '" + signs("setPattern", number("patternLength")) + "'");
        return answers;
    }

    private void addAnswers(List<String> answers, String name, int numbers) {
        for (int number = 0; number < numbers; number++) {
            answers.add(name + "(" + number + ") " + make(name, number));
        }
    }
}
