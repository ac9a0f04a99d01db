// Promises 25 to 28: sums and orders.
public final class BlankMatcherSumsAndOrders extends SentenceTests {
    private static final String SAME_ORDER =
        "Returns at how many places the window has the order of the pattern: for any two symbols"
        + " of the pattern, the first one is less than, equal to or greater than the second one just as the symbols of"
        + " the window with which they are compared.";

    public static void main(String[] args) {
        run(BlankMatcherSumsAndOrders.class);
    }

    @Sentence(says = "---- sums and orders: symbols are taken as numbers, the blank as 0.")
    static void blankIsTakenAsZero() {
        of("d.db", "bb").due(2, "sumMatches");
        of("abcd", ".e").due(1, "sumMatches");
        of("...", "a").due(0, "sumMatches");
        of("...", ".").due(3, "sumMatches");
        of(".ab.", "a.").due(1, "orderMatches");
        of(".ab.", ".a").due(2, "orderMatches");
        of("aab..", "..").due(2, "orderMatches");
        of("aab..", "bb").due(2, "orderMatches");
    }

    // ---- promise 25: sumMatches

    @Sentence(promise = 25, says = "Returns at how many places the sum of the window is that of the pattern.")
    static void sumMatchesOfLetters() {
        // The sums are 4 3 4 4 5.
        of("bbacad", "bb").due(3, "sumMatches");
        of("bbacad", "ae").due(0, "sumMatches");
        of("bbacad", "ab").due(1, "sumMatches");
        of("bbacad", "ad").due(1, "sumMatches");
    }

    @Sentence(promise = 25, says = "Returns the places.")
    static void sumMatchesOfTheEmptyPattern() {
        of("", "").due(1, "sumMatches");
        of("abc", "").due(4, "sumMatches");
        of(FULL_TEXT, "").due(65, "sumMatches");
    }

    @Sentence(promise = 25, says = "Returns the places.")
    static void sumMatchesOfTheGreatestAndTheLeastSums() {
        of("z".repeat(64), "z".repeat(24)).due(41, "sumMatches");
        of("z".repeat(64), "z".repeat(23) + "y").due(0, "sumMatches");
        of("z".repeat(63) + "y", "z".repeat(23) + "y").due(1, "sumMatches");
        of("y" + "z".repeat(63), "z".repeat(23) + "y").due(1, "sumMatches");
        of(".".repeat(64), ".".repeat(24)).due(41, "sumMatches");
        of(".".repeat(64), ".".repeat(23) + "a").due(0, "sumMatches");
    }

    @Sentence(promise = 25, says = "Returns the places.")
    static void sumMatchesOfAPatternThatIsLongerThanTheText() {
        of("", ".").due(0, "sumMatches");
        of("a", "a.").due(0, "sumMatches");
        of("a".repeat(23), "a".repeat(23) + ".").due(0, "sumMatches");
        of("b".repeat(24), "b".repeat(24)).due(1, "sumMatches");
    }

    // ---- promise 26: sumMatch

    @Sentence(promise = 26, says = "Returns the place of such a window; they are numbered from 0 by ascending places.")
    static void sumMatchIsNumberedByAscendingPlaces() {
        // The sums are 4 3 5 4 4.
        Subject x = of("bbad.d", "bb");
        x.due(0, "sumMatch", 0);
        x.due(3, "sumMatch", 1);
        x.due(4, "sumMatch", 2);
        of("bbad.d", "ad").due(2, "sumMatch", 0);
    }

    @Sentence(promise = 26, says = "- `match`: 0 or more, less than sumMatches()")
    static void sumMatchTakesNumbersBelowSumMatches() {
        Subject x = of("abzab", "c.");
        x.due(2, "sumMatches");
        x.due(0, "sumMatch", 0);
        x.due(3, "sumMatch", 1);
        x.refusedEach(INDEX, "sumMatch", -1, 2);
    }

    @Sentence(promise = 26, says = "Returns the place.")
    static void sumMatchAtTheFirstAndTheLastPlace() {
        Subject x = of("ab" + "z".repeat(60) + "ba", ".c");
        x.due(0, "sumMatch", 0);
        x.due(62, "sumMatch", 1);
        Subject full = of("z".repeat(64), "z".repeat(24));
        full.due(0, "sumMatch", 0);
        full.due(40, "sumMatch", 40);
        of("abc", "bbb").due(0, "sumMatch", 0);
    }

    @Sentence(promise = 26, says = "Returns the place.")
    static void sumMatchOfTheEmptyPattern() {
        Subject x = of(FULL_TEXT, "");
        for (int match = 0; match <= 64; match++) {
            x.due(match, "sumMatch", match);
        }
        of("", "").due(0, "sumMatch", 0);
    }

    @Sentence(promise = 26, says = "Throws `IndexOutOfBoundsException` if there is no such match")
    static void sumMatchRefusesNumbersThatAreNotThere() {
        of("bbad.d", "bb").refusedEach(INDEX, "sumMatch", -1, 3, 4, MOST, LEAST);
        of("abc", "bbb").refusedEach(INDEX, "sumMatch", -1, 1);
        of("abc", "").refusedEach(INDEX, "sumMatch", -1, 4, MOST, LEAST);
        of(FULL_TEXT, "").refusedEach(INDEX, "sumMatch", -1, 65);
        of("", "").refusedEach(INDEX, "sumMatch", -1, 1);
        of("z".repeat(64), "z".repeat(24)).refusedEach(INDEX, "sumMatch", -1, 41);
    }

    @Sentence(promise = 26, says = "Throws `IndexOutOfBoundsException` if there is no such match")
    static void sumMatchRefusesAllNumbersWhereThereIsNone() {
        of("abc", "zz").refusedEach(INDEX, "sumMatch", -1, 0, 1, MOST, LEAST);
        of("ab", "abc").refusedEach(INDEX, "sumMatch", -1, 0, 1, MOST, LEAST);
        of("", ".").refusedEach(INDEX, "sumMatch", -1, 0);
    }

    // ---- promise 27: orderMatches

    @Sentence(promise = 27, says = SAME_ORDER)
    static void orderMatchesOfNeighbours() {
        of("abcab", "xz").due(3, "orderMatches");
        of("aabb", "cc").due(2, "orderMatches");
        of("abca", "zx").due(1, "orderMatches");
    }

    @Sentence(promise = 27, says = SAME_ORDER)
    static void orderMatchesOfSymbolsAtADistance() {
        of("acbbca", "xzy").due(1, "orderMatches");
        of("acaabc", "bcb").due(1, "orderMatches");
        of("a" + "c".repeat(22) + "a", "b" + "d".repeat(22) + "b").due(1, "orderMatches");
        of("a" + "c".repeat(22) + "b", "b" + "d".repeat(22) + "b").due(0, "orderMatches");
        of("b" + "c".repeat(22) + "a", "b" + "d".repeat(22) + "b").due(0, "orderMatches");
    }

    @Sentence(promise = 27, says = "Returns the places.")
    static void orderMatchesOfTheEmptyPatternAndOfOneSymbol() {
        of("", "").due(1, "orderMatches");
        of("abc", "").due(4, "orderMatches");
        of(FULL_TEXT, "").due(65, "orderMatches");
        of("abc", "z").due(3, "orderMatches");
        of(FULL_TEXT, ".").due(64, "orderMatches");
    }

    @Sentence(promise = 27, says = "Returns the places.")
    static void orderMatchesOfTheFullPattern() {
        of("a".repeat(64), "z".repeat(24)).due(41, "orderMatches");
        of("a".repeat(64), "z".repeat(23) + "y").due(0, "orderMatches");
        of("b".repeat(63) + "a", "z".repeat(23) + "y").due(1, "orderMatches");
        of("a" + "b".repeat(63), "y" + "z".repeat(23)).due(1, "orderMatches");
        // It rises at the places 0 to 2 and 26 to 29, as the blank at 26 is less than all letters.
        of(FULL_TEXT, "abcdefghijklmnopqrstuvwx").due(7, "orderMatches");
        of(FULL_TEXT, FULL_PATTERN).due(0, "orderMatches");
    }

    @Sentence(promise = 27, says = "Returns the places.")
    static void orderMatchesOfAPatternThatIsLongerThanTheText() {
        of("", "a").due(0, "orderMatches");
        of("a", "ab").due(0, "orderMatches");
        of("a".repeat(23), "a".repeat(24)).due(0, "orderMatches");
        of("a".repeat(24), "b".repeat(24)).due(1, "orderMatches");
    }

    // ---- promise 28: orderMatch

    @Sentence(promise = 28, says = "Returns the place of such a window; they are numbered from 0 by ascending places.")
    static void orderMatchIsNumberedByAscendingPlaces() {
        // The windows are acb cbd bdb dba bac acb.
        Subject x = of("acbdbacb", "mzp");
        x.due(0, "orderMatch", 0);
        x.due(5, "orderMatch", 1);
        of("acbdbacb", "pmz").due(1, "orderMatch", 0);
        of("acbdbacb", "pmz").due(4, "orderMatch", 1);
    }

    @Sentence(promise = 28, says = "- `match`: 0 or more, less than orderMatches()")
    static void orderMatchTakesNumbersBelowOrderMatches() {
        Subject x = of("abab", "yz");
        x.due(2, "orderMatches");
        x.due(0, "orderMatch", 0);
        x.due(2, "orderMatch", 1);
        x.refusedEach(INDEX, "orderMatch", -1, 2);
    }

    @Sentence(promise = 28, says = "Returns the place.")
    static void orderMatchAtTheFirstAndTheLastPlace() {
        Subject x = of("ab" + "c".repeat(61) + "d", "yz");
        x.due(0, "orderMatch", 0);
        x.due(1, "orderMatch", 1);
        x.due(62, "orderMatch", 2);
        Subject full = of("a".repeat(64), "z".repeat(24));
        full.due(0, "orderMatch", 0);
        full.due(40, "orderMatch", 40);
        of("abc", "xyz").due(0, "orderMatch", 0);
    }

    @Sentence(promise = 28, says = "Returns the place.")
    static void orderMatchOfTheEmptyPattern() {
        Subject x = of(FULL_TEXT, "");
        for (int match = 0; match <= 64; match++) {
            x.due(match, "orderMatch", match);
        }
        of("", "").due(0, "orderMatch", 0);
    }

    @Sentence(promise = 28, says = "Throws `IndexOutOfBoundsException` if there is no such match")
    static void orderMatchRefusesNumbersThatAreNotThere() {
        of("acbdbacb", "mzp").refusedEach(INDEX, "orderMatch", -1, 2, 5, MOST, LEAST);
        of("abc", "xyz").refusedEach(INDEX, "orderMatch", -1, 1);
        of("abc", "").refusedEach(INDEX, "orderMatch", -1, 4, MOST, LEAST);
        of(FULL_TEXT, "").refusedEach(INDEX, "orderMatch", -1, 65);
        of("", "").refusedEach(INDEX, "orderMatch", -1, 1);
        of("a".repeat(64), "z".repeat(24)).refusedEach(INDEX, "orderMatch", -1, 41);
    }

    @Sentence(promise = 28, says = "Throws `IndexOutOfBoundsException` if there is no such match")
    static void orderMatchRefusesAllNumbersWhereThereIsNone() {
        of("abc", "zx").refusedEach(INDEX, "orderMatch", -1, 0, 1, MOST, LEAST);
        of("ab", "abc").refusedEach(INDEX, "orderMatch", -1, 0, 1, MOST, LEAST);
        of("", ".").refusedEach(INDEX, "orderMatch", -1, 0);
    }
}
