import java.lang.reflect.Constructor;
import java.lang.reflect.Field;
import java.lang.reflect.Member;
import java.lang.reflect.Method;
import java.lang.reflect.Modifier;
import java.util.Arrays;
import java.util.Set;
import java.util.TreeSet;
import java.util.stream.Collectors;

// The public face is just that of the document, and no other member can be reached from outside.
public final class BlankMatcherFace {
    private static final String A = "IllegalArgumentException";
    private static final String B = "IndexOutOfBoundsException";
    private static final String S = "IllegalStateException";

    private static final Set<String> DUE = new TreeSet<>(Arrays.asList(
        "int NONE", "int BLANK", "BlankMatcher()",
        "int appendText(int) " + A + " " + S,
        "int repeatText(int, int) " + A + " " + B + " " + S,
        "int setText(int, int) " + B + " " + A,
        "int appendPattern(int) " + A + " " + S,
        "int setPattern(int, int) " + B + " " + A,
        "int takePattern(int, int) " + A + " " + B,
        "int clearText()", "int clearPattern()", "int textLength()", "int patternLength()", "int places()",
        "int product(int) " + A,
        "int difference(int) " + B,
        "int matches()",
        "int match(int) " + B,
        "int apart()",
        "int mismatches(int) " + B,
        "int mismatchesOf(int, int) " + A + " " + B,
        "int nextMismatch(int, int) " + A + " " + B,
        "int agreement(int, int) " + A,
        "int within(int) " + A,
        "int ranked(int) " + B,
        "int bestLetter(int) " + B,
        "int sumMatches()",
        "int sumMatch(int) " + B,
        "int orderMatches()",
        "int orderMatch(int) " + B,
        "boolean hasPeriod(int) " + A,
        "int leastPeriod()"));

    public static void main(String[] args) {
        Set<String> got = new TreeSet<>();
        Set<String> publicNames = new TreeSet<>();
        boolean right = Modifier.isFinal(BlankMatcher.class.getModifiers());
        for (Field field : BlankMatcher.class.getDeclaredFields()) {
            if (isOpen(field)) {
                got.add(field.getType() + " " + field.getName());
                right &= Modifier.isStatic(field.getModifiers()) && Modifier.isFinal(field.getModifiers());
            }
        }
        for (Constructor<?> constructor : BlankMatcher.class.getDeclaredConstructors()) {
            if (isOpen(constructor)) {
                got.add("BlankMatcher" + described(constructor.getParameterTypes(), constructor.getExceptionTypes()));
            }
        }
        for (Method method : BlankMatcher.class.getDeclaredMethods()) {
            if (isOpen(method)) {
                publicNames.add(method.getName());
                got.add(method.getReturnType() + " " + method.getName()
                    + described(method.getParameterTypes(), method.getExceptionTypes()));
            }
        }
        for (Method method : BlankMatcher.class.getDeclaredMethods()) {
            if (!isOpen(method) && publicNames.contains(method.getName())) {
                System.out.println("a private method bears the name of a public one: " + method.getName());
                right = false;
            }
        }
        if (!got.equals(DUE)) {
            System.out.println("the face is " + got + ", due is " + DUE);
            right = false;
        }
        System.out.println(right ? "the face is that of the document" : "the face is wrong");
        System.exit(right ? 0 : 1);
    }

    private static boolean isOpen(Member member) {
        return !Modifier.isPrivate(member.getModifiers());
    }

    private static String described(Class<?>[] parameters, Class<?>[] exceptions) {
        String takes = Arrays.stream(parameters).map(Class::getName).collect(Collectors.joining(", ", "(", ")"));
        return takes + Arrays.stream(exceptions).map(type -> " " + type.getSimpleName()).collect(Collectors.joining());
    }
}
