// Promises 15 to 17: matches.
public final class BlankMatcherMatches extends SentenceTests {
    private static final String APART =
        "Returns how many matches can be chosen so that their windows do not overlap, if one goes"
        + " from the left to the right and takes each one that does not overlap the one that was taken last.";

    public static void main(String[] args) {
        run(BlankMatcherMatches.class);
    }

    // ---- promise 15: matches

    @Sentence(promise = 15, says = "Returns at how many places the pattern matches.")
    static void matchesOfLetters() {
        of("abcabxab", "ab").due(3, "matches");
        of("aaaa", "aa").due(3, "matches");
        of("abc", "d").due(0, "matches");
    }

    @Sentence(promise = 15, says = "Returns at how many places the pattern matches.")
    static void matchesOfBlanks() {
        of("abcaxcaxd", "a.c").due(2, "matches");
        of("a.cabd", "ab").due(2, "matches");
        of("abcde", "..").due(4, "matches");
        of(".....", "ab").due(4, "matches");
        of("ab", "b.").due(0, "matches");
    }

    @Sentence(promise = 15, says = "Returns the matches.")
    static void matchesOfTheEmptyPattern() {
        of("", "").due(1, "matches");
        of("abc", "").due(4, "matches");
        of(FULL_TEXT, "").due(65, "matches");
    }

    @Sentence(promise = 15, says = "Returns the matches.")
    static void matchesOfTheFullPattern() {
        of("a".repeat(64), "a".repeat(24)).due(41, "matches");
        of("a".repeat(64), "a".repeat(23) + "b").due(0, "matches");
        of("a".repeat(63) + "b", "a".repeat(23) + "b").due(1, "matches");
        of("b" + "a".repeat(63), "b" + "a".repeat(23)).due(1, "matches");
        of(FULL_TEXT, FULL_PATTERN).due(0, "matches");
    }

    @Sentence(promise = 15, says = "Returns the matches.")
    static void matchesOfAPatternThatIsLongerThanTheText() {
        of("", ".").due(0, "matches");
        of("a", "..").due(0, "matches");
        of("a".repeat(23), "a".repeat(24)).due(0, "matches");
        of("a".repeat(24), "a".repeat(24)).due(1, "matches");
    }

    // ---- promise 16: match

    @Sentence(promise = 16, says = "Returns the place of a match; matches are numbered from 0 by ascending places.")
    static void matchIsNumberedByAscendingPlaces() {
        Subject x = of("xabca.xab", "ab");
        x.due(1, "match", 0);
        x.due(4, "match", 1);
        x.due(7, "match", 2);
    }

    @Sentence(promise = 16, says = "- `match`: 0 or more, less than matches()")
    static void matchTakesNumbersBelowMatches() {
        Subject x = of("abab", "ab");
        x.due(2, "matches");
        x.due(0, "match", 0);
        x.due(2, "match", 1);
        x.refusedEach(INDEX, "match", -1, 2);
    }

    @Sentence(promise = 16, says = "Returns the place.")
    static void matchAtTheFirstAndTheLastPlace() {
        Subject x = of("ab" + "c".repeat(60) + "ab", "ab");
        x.due(0, "match", 0);
        x.due(62, "match", 1);
        Subject full = of("a".repeat(64), "a".repeat(24));
        full.due(0, "match", 0);
        full.due(40, "match", 40);
        of("abc", "abc").due(0, "match", 0);
    }

    @Sentence(promise = 16, says = "Returns the place.")
    static void matchOfTheEmptyPattern() {
        Subject x = of(FULL_TEXT, "");
        for (int match = 0; match <= 64; match++) {
            x.due(match, "match", match);
        }
        of("", "").due(0, "match", 0);
    }

    @Sentence(promise = 16, says = "Throws `IndexOutOfBoundsException` if there is no such match")
    static void matchRefusesNumbersThatAreNotThere() {
        of("abca.xab", "ab").refusedEach(INDEX, "match", -1, 3, 4, 7, MOST, LEAST);
        of("abc", "abc").refusedEach(INDEX, "match", -1, 1);
        of("abc", "").refusedEach(INDEX, "match", -1, 4, MOST, LEAST);
        of(FULL_TEXT, "").refusedEach(INDEX, "match", -1, 65, MOST, LEAST);
        of("", "").refusedEach(INDEX, "match", -1, 1);
    }

    @Sentence(promise = 16, says = "Throws `IndexOutOfBoundsException` if there is no such match")
    static void matchRefusesAllNumbersWhereThereIsNone() {
        of("abc", "d").refusedEach(INDEX, "match", -1, 0, 1, MOST, LEAST);
        of("ab", "abc").refusedEach(INDEX, "match", -1, 0, 1, MOST, LEAST);
        of("", ".").refusedEach(INDEX, "match", -1, 0, 1);
        of(FULL_TEXT, FULL_PATTERN).refusedEach(INDEX, "match", -1, 0, 40);
    }

    // ---- promise 17: apart

    @Sentence(promise = 17, says = APART)
    static void apartGoesFromTheLeftToTheRight() {
        of("aaaaa", "aa").due(2, "apart");
        of("ababab", "ab").due(3, "apart");
        of("aaabaa", "aa").due(2, "apart");
        of("abababa", "aba").due(2, "apart");
        of("abababab", "aba").due(2, "apart");
    }

    @Sentence(promise = 17, says = APART)
    static void apartTakesWindowsSideBySideAndNoneThatShareASymbol() {
        of("aaaa", "aa").due(2, "apart");
        of("aaa", "aa").due(1, "apart");
        of("aaa", "a").due(3, "apart");
        of("abcbcabc", "abc").due(2, "apart");
        of("abcabc", "abc").due(2, "apart");
        // The matches are at 0, 2 and 4: that at 2 overlaps the one taken, that at 4 only the one left out.
        of("aba.aba", "a.a").due(2, "apart");
    }

    @Sentence(promise = 17, says = "(Windows of the empty pattern do not overlap.)")
    static void apartOfTheEmptyPatternTakesAllPlaces() {
        of("", "").due(1, "apart");
        of("a", "").due(2, "apart");
        of("abc", "").due(4, "apart");
        of(FULL_TEXT, "").due(65, "apart");
    }

    @Sentence(promise = 17, says = "Returns the matches taken.")
    static void apartOfTheFullTextAndPattern() {
        of("a".repeat(64), "a".repeat(24)).due(2, "apart");
        of("a".repeat(64), "a".repeat(22)).due(2, "apart");
        of("a".repeat(64), "a".repeat(21)).due(3, "apart");
        of("a".repeat(64), "a").due(64, "apart");
        of("a".repeat(48), "a".repeat(24)).due(2, "apart");
        of("a".repeat(47), "a".repeat(24)).due(1, "apart");
    }

    @Sentence(promise = 17, says = "Returns the matches taken.")
    static void apartIsZeroWithoutAMatch() {
        of("aaa", "b").due(0, "apart");
        of("a", "aa").due(0, "apart");
        of("", ".").due(0, "apart");
        of("a".repeat(23), "a".repeat(24)).due(0, "apart");
        of(FULL_TEXT, FULL_PATTERN).due(0, "apart");
    }
}
