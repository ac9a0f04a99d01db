import java.io.IOException;
import java.lang.reflect.Method;
import java.nio.file.Files;
import java.nio.file.Path;
import java.util.ArrayList;
import java.util.List;
import java.util.Map;
import java.util.TreeMap;

// Each sentence of the document's promises has a test, and each test quotes a sentence that stands there.
public final class BlankMatcherDocument extends SentenceTests {
    private static final Path DOCUMENT = Path.of("../shared/DOC.md");
    private static final Class<?>[] TESTS = {
        BlankMatcherTerms.class, BlankMatcherText.class, BlankMatcherPattern.class, BlankMatcherProducts.class,
        BlankMatcherMatches.class, BlankMatcherMismatches.class, BlankMatcherRanking.class,
        BlankMatcherSumsAndOrders.class, BlankMatcherPeriods.class,
    };
    private static final int AHEAD = 0;
    private static final int PROMISES = 30;

    public static void main(String[] args) throws IOException {
        Map<Integer, List<String>> document = linesByPromise(Files.readAllLines(DOCUMENT));
        List<String> faults = new ArrayList<>();
        int tests = 0;
        for (Class<?> one : TESTS) {
            for (Method test : testsOf(one)) {
                tests++;
                if (!stands(document, sentenceOf(test))) {
                    faults.add(test.getName() + " quotes what the document does not say there");
                }
            }
        }
        for (int promise = 1; promise <= PROMISES; promise++) {
            for (String line : document.getOrDefault(promise, List.of(""))) {
                if (!isTested(promise, line)) {
                    faults.add("promise " + promise + " has no test for: " + line);
                }
            }
        }
        faults.forEach(System.out::println);
        System.out.println(tests + " tests quote the document, " + faults.size() + " faults");
        System.exit(faults.isEmpty() ? 0 : 1);
    }

    private static Map<Integer, List<String>> linesByPromise(List<String> lines) {
        Map<Integer, List<String>> byPromise = new TreeMap<>();
        int promise = AHEAD;
        for (String line : lines) {
            if (line.startsWith("## Promise ")) {
                promise = Integer.parseInt(line.substring("## Promise ".length(), line.indexOf(':')));
            } else if (line.startsWith("## ")) {
                promise = AHEAD;
            } else if (!line.isBlank()) {
                byPromise.computeIfAbsent(promise, key -> new ArrayList<>()).add(line);
            }
        }
        return byPromise;
    }

    private static boolean stands(Map<Integer, List<String>> document, Sentence sentence) {
        return isIn(document.get(AHEAD), sentence) || isIn(document.get(sentence.promise()), sentence);
    }

    private static boolean isIn(List<String> lines, Sentence sentence) {
        return lines != null && lines.stream().anyMatch(line -> line.contains(sentence.says()));
    }

    /** Whether nothing of the line is left but the method's face, if all that tests quote is taken away. */
    private static boolean isTested(int promise, String line) {
        String left = line.startsWith("`") ? line.substring(line.indexOf("`: ") + "`: ".length()) : line;
        for (Class<?> one : TESTS) {
            for (Method test : testsOf(one)) {
                if (sentenceOf(test).promise() == promise) {
                    left = left.replace(sentenceOf(test).says(), "");
                }
            }
        }
        return !line.isBlank() && left.isBlank();
    }
}
