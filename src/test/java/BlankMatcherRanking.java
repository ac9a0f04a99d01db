// Promises 22 to 24: mismatches at all places together.
public final class BlankMatcherRanking extends SentenceTests {
    private static final String RANKED =
        "Returns a place by its rank, if all places are ordered by how many mismatches they have,"
        + " and those with as many by ascending places.";
    private static final String BEST_LETTER =
        "Returns which letter a symbol of the pattern would have to be, so that the pattern has"
        + " the fewest mismatches, at all places together; the blank is not considered.";

    public static void main(String[] args) {
        run(BlankMatcherRanking.class);
    }

    // ---- promise 22: within

    @Sentence(promise = 22, says = "Returns at how many places there are at most some number of mismatches.")
    static void withinCountsPlacesUpToTheBound() {
        // The mismatches are 1 2 2 0.
        Subject x = of("abc.bd", "abd");
        x.due(1, "within", 0);
        x.due(2, "within", 1);
        x.due(4, "within", 2);
        x.due(4, "within", 3);
    }

    @Sentence(promise = 22, says = "- `bound`: 0 or more")
    static void withinTheLeastAndTheGreatestBound() {
        Subject x = of("abc.bd", "abd");
        x.due(1, "within", 0);
        x.due(4, "within", MOST);
        x.refused(ARGUMENT, "within", -1);
    }

    @Sentence(promise = 22, says = "Returns the places.")
    static void withinOfTheFullTextAndPattern() {
        Subject x = of("a".repeat(64), "b".repeat(24));
        x.due(0, "within", 0);
        x.due(0, "within", 23);
        x.due(41, "within", 24);
        x.due(41, "within", 25);
        of("a".repeat(64), "a".repeat(24)).due(41, "within", 0);
    }

    @Sentence(promise = 22, says = "Returns the places.")
    static void withinOfTheEmptyPattern() {
        of("", "").due(1, "within", 0);
        of("ab", "").due(3, "within", 0);
        of(FULL_TEXT, "").due(65, "within", 0);
        of(FULL_TEXT, "").due(65, "within", MOST);
    }

    @Sentence(promise = 22, says = "Returns the places.")
    static void withinOfAPatternThatIsLongerThanTheText() {
        of("", "a").due(0, "within", 0);
        of("a", "ab").due(0, "within", 2);
        of("a".repeat(23), "a".repeat(24)).due(0, "within", MOST);
        of("a".repeat(24), "a".repeat(24)).due(1, "within", 0);
    }

    @Sentence(promise = 22, says = "Throws `IllegalArgumentException` if bound is below 0")
    static void withinRefusesBoundsBelowZero() {
        of("abc.bd", "abd").refusedEach(ARGUMENT, "within", -1, -2, LEAST + 1, LEAST);
        of("", "").refusedEach(ARGUMENT, "within", -1, LEAST);
        of("a", "ab").refusedEach(ARGUMENT, "within", -1, LEAST);
        of(FULL_TEXT, FULL_PATTERN).refusedEach(ARGUMENT, "within", -1, LEAST);
    }

    // ---- promise 23: ranked

    @Sentence(promise = 23, says = RANKED)
    static void rankedByMismatchesAndThenByPlaces() {
        // The mismatches are 0 2 2 2 0 2 2 1.
        Subject x = of("abxdabxxb", "ab");
        int[] order = {0, 4, 7, 1, 2, 3, 5, 6};
        for (int rank = 0; rank < order.length; rank++) {
            x.due(order[rank], "ranked", rank);
        }
    }

    @Sentence(promise = 23, says = RANKED)
    static void rankedFollowsEachChange() {
        Subject x = of("xab", "ab");
        x.due(1, "ranked", 0);
        x.due(0, "ranked", 1);
        x.due(1, "setText", 1, 24);
        x.due(0, "ranked", 1);
        x.due(1, "setPattern", 0, 24);
        x.due(1, "ranked", 0);
        x.due(2, "setText", 2, 24);
        x.due(0, "ranked", 0);
        x.due(1, "ranked", 1);
    }

    @Sentence(promise = 23, says = "- `rank`: 0 or more, less than places()")
    static void rankedTakesNumbersBelowPlaces() {
        Subject x = of("baab", "ab");
        x.due(3, "places");
        x.due(2, "ranked", 0);
        x.due(1, "ranked", 1);
        x.due(0, "ranked", 2);
        x.refusedEach(INDEX, "ranked", -1, 3);
    }

    @Sentence(promise = 23, says = "Returns the place.")
    static void rankedTheLastPlaceFirstAndTheFirstPlaceLast() {
        Subject x = of("b".repeat(62) + "ab", "ab");
        // One mismatch at 0 to 60, two at 61, none at 62.
        x.due(62, "ranked", 0);
        x.due(0, "ranked", 1);
        x.due(60, "ranked", 61);
        x.due(61, "ranked", 62);
        of("ba", "a").due(0, "ranked", 1);
    }

    @Sentence(promise = 23, says = "Returns the place.")
    static void rankedWhereAllSymbolsAreMismatches() {
        Subject x = of("a".repeat(64), "b".repeat(24));
        for (int rank = 0; rank <= 40; rank++) {
            x.due(rank, "ranked", rank);
        }
        of("aab", "b").due(2, "ranked", 0);
        of("a", "b").due(0, "ranked", 0);
    }

    @Sentence(promise = 23, says = "Returns the place.")
    static void rankedOfTheEmptyPattern() {
        Subject x = of(FULL_TEXT, "");
        for (int rank = 0; rank <= 64; rank++) {
            x.due(rank, "ranked", rank);
        }
        of("", "").due(0, "ranked", 0);
    }

    @Sentence(promise = 23, says = "Throws `IndexOutOfBoundsException` if there is no such rank")
    static void rankedRefusesNumbersThatAreNotThere() {
        of("abxdabxxb", "ab").refusedEach(INDEX, "ranked", -1, 8, 9, MOST, LEAST);
        of("abc", "abc").refusedEach(INDEX, "ranked", -1, 1);
        of("abc", "").refusedEach(INDEX, "ranked", -1, 4, MOST, LEAST);
        of("", "").refusedEach(INDEX, "ranked", -1, 1);
        of(FULL_TEXT, "").refusedEach(INDEX, "ranked", -1, 65, 66);
        of(FULL_TEXT, FULL_PATTERN).refusedEach(INDEX, "ranked", -1, 41, 64);
    }

    @Sentence(promise = 23, says = "Throws `IndexOutOfBoundsException` if there is no such rank")
    static void rankedRefusesAllNumbersWhereThereIsNoPlace() {
        of("ab", "abc").refusedEach(INDEX, "ranked", -1, 0, 1, MOST, LEAST);
        of("", FULL_PATTERN).refusedEach(INDEX, "ranked", -1, 0);
    }

    // ---- promise 24: bestLetter

    @Sentence(promise = 24, says = BEST_LETTER)
    static void bestLetterCountsTheSymbolsAtAllPlaces() {
        // Symbol 0 meets z b z b . a b, symbol 1 meets b z b . a b c.
        Subject x = of("zbzb.abc", "ac");
        x.due(2, "bestLetter", 0);
        x.due(2, "bestLetter", 1);
        of("zaaaa", "aaaaa").due(26, "bestLetter", 0);
        of("zaaaa", "aaaaa").due(1, "bestLetter", 1);
        of("aaaaz", "aaaaa").due(26, "bestLetter", 4);
        of("zcc", "aa").due(3, "bestLetter", 1);
    }

    @Sentence(promise = 24, says = BEST_LETTER)
    static void bestLetterIsNeverTheBlank() {
        of("..c.", "z").due(3, "bestLetter", 0);
        of("dd", ".").due(4, "bestLetter", 0);
        of("...", "z").due(1, "bestLetter", 0);
        of("...", ".").due(1, "bestLetter", 0);
        of(".".repeat(64), ".".repeat(24)).due(1, "bestLetter", 23);
    }

    @Sentence(promise = 24, says = "- `index`: the number of the symbol of the pattern")
    static void bestLetterOfTheFirstAndTheLastSymbol() {
        Subject x = of("z".repeat(41) + "y".repeat(23), FULL_PATTERN);
        x.due(26, "bestLetter", 0);
        x.due(25, "bestLetter", 23);
        of("q", "a").due(17, "bestLetter", 0);
    }

    @Sentence(promise = 24, says = "Returns the letter, of several the lowest one.")
    static void bestLetterOfSeveralIsTheLowest() {
        of("zaza", "b").due(1, "bestLetter", 0);
        of("azaz", "b").due(1, "bestLetter", 0);
        of("zyzy", "b").due(25, "bestLetter", 0);
        of("zyzyz", "b").due(26, "bestLetter", 0);
        of(ONCE, "z").due(1, "bestLetter", 0);
        of(ONCE.substring(4), "z").due(5, "bestLetter", 0);
    }

    @Sentence(promise = 24, says = "Returns the letter, of several the lowest one.")
    static void bestLetterWithoutAPlaceIsTheLowestOfAll() {
        of("zz", "zzz").due(1, "bestLetter", 0);
        of("zz", "zzz").due(1, "bestLetter", 2);
        of("", "z").due(1, "bestLetter", 0);
        of("z".repeat(23), "z".repeat(24)).due(1, "bestLetter", 23);
    }

    @Sentence(promise = 24, says = "Throws `IndexOutOfBoundsException` if there is no such symbol in the pattern")
    static void bestLetterRefusesNumbersThatAreNotThere() {
        of("zbzb.abc", "ac").refusedEach(INDEX, "bestLetter", -1, 2, 3, 7, 24, MOST, LEAST);
        of("a", "").refusedEach(INDEX, "bestLetter", -1, 0, 1);
        of("", "").refusedEach(INDEX, "bestLetter", -1, 0);
        of(FULL_TEXT, FULL_PATTERN).refusedEach(INDEX, "bestLetter", -1, 24, 40, MOST, LEAST);
        of("a", "zzz").refusedEach(INDEX, "bestLetter", -1, 3);
    }
}
