// Promises 18 to 21: mismatches at a place.
public final class BlankMatcherMismatches extends SentenceTests {
    private static final String AT_A_LETTER =
        "Returns how many of the mismatches at a place are at symbols of the pattern that are"
        + " some letter.";
    private static final String NUMBER_OR_NONE =
        "Returns the number of the symbol of the pattern; NONE if there is no mismatch from there on.";
    private static final String AGREEMENT =
        "Returns how many symbols agree, one after the other, from a symbol of the text and a"
        + " symbol of the pattern on, until there is a mismatch, or one of both ends.";

    public static void main(String[] args) {
        run(BlankMatcherMismatches.class);
    }

    // ---- promise 18: mismatches

    @Sentence(promise = 18, says = "Returns how many mismatches there are at a place.")
    static void mismatchesAtEachPlace() {
        Subject x = of("abc.bd", "abd");
        x.due(1, "mismatches", 0);
        x.due(2, "mismatches", 1);
        x.due(2, "mismatches", 2);
        x.due(0, "mismatches", 3);
    }

    @Sentence(promise = 18, says = "- `place`: the place")
    static void mismatchesAtTheFirstAndTheLastPlace() {
        Subject x = of("zz" + "a".repeat(61) + "z", "aa");
        x.due(2, "mismatches", 0);
        x.due(1, "mismatches", 1);
        x.due(0, "mismatches", 2);
        x.due(1, "mismatches", 62);
        of("ab", "ac").due(1, "mismatches", 0);
    }

    @Sentence(promise = 18, says = "Returns the mismatches.")
    static void mismatchesFromNoneToTwentyFour() {
        for (int many = 0; many <= 24; many++) {
            Subject x = of("a".repeat(64), "b".repeat(many) + "a".repeat(24 - many));
            x.due(many, "mismatches", 0);
            x.due(many, "mismatches", 40);
        }
        of(".".repeat(64), FULL_PATTERN).due(0, "mismatches", 40);
        of(FULL_TEXT, ".".repeat(24)).due(0, "mismatches", 40);
    }

    @Sentence(promise = 18, says = "Returns the mismatches.")
    static void mismatchesOfTheEmptyPattern() {
        of("", "").due(0, "mismatches", 0);
        of("abc", "").due(0, "mismatches", 0);
        of("abc", "").due(0, "mismatches", 3);
        of(FULL_TEXT, "").due(0, "mismatches", 64);
    }

    @Sentence(promise = 18, says = "Throws `IndexOutOfBoundsException` if there is no such place")
    static void mismatchesRefusesPlacesThatAreNotThere() {
        of("abc.bd", "abd").refusedEach(INDEX, "mismatches", -1, 4, 5, 6, MOST, MOST - 2, LEAST);
        of("abc", "abc").refusedEach(INDEX, "mismatches", -1, 1);
        of("abc", "").refusedEach(INDEX, "mismatches", -1, 4, MOST, LEAST);
        of("", "").refusedEach(INDEX, "mismatches", -1, 1);
        of(FULL_TEXT, FULL_PATTERN).refusedEach(INDEX, "mismatches", -1, 41, 64, MOST, LEAST);
        of("ab", "abc").refusedEach(INDEX, "mismatches", -1, 0, 1, MOST, LEAST);
    }

    // ---- promise 19: mismatchesOf

    @Sentence(promise = 19, says = AT_A_LETTER)
    static void mismatchesOfOneLetterOfThePattern() {
        Subject x = of("bbab.", "aba.");
        x.due(1, "mismatchesOf", 0, 1);
        x.due(0, "mismatchesOf", 0, 2);
        x.due(2, "mismatchesOf", 1, 1);
        x.due(1, "mismatchesOf", 1, 2);
        x.due(0, "mismatchesOf", 1, 26);
    }

    @Sentence(promise = 19, says = AT_A_LETTER)
    static void mismatchesOfTheTextsLetterIsNone() {
        Subject x = of("a", "z");
        x.due(0, "mismatchesOf", 0, 1);
        x.due(1, "mismatchesOf", 0, 26);
        of(".", "z").due(0, "mismatchesOf", 0, 26);
    }

    @Sentence(promise = 19, says = "- `place`: the place")
    static void mismatchesOfAtTheFirstAndTheLastPlace() {
        Subject x = of("zz" + "a".repeat(61) + "z", "aa");
        x.due(2, "mismatchesOf", 0, 1);
        x.due(1, "mismatchesOf", 1, 1);
        x.due(1, "mismatchesOf", 62, 1);
    }

    @Sentence(promise = 19, says = "- `letter`: 1 to 26")
    static void mismatchesOfEachLetter() {
        for (int letter = 1; letter <= 26; letter++) {
            Subject x = of("a", "a");
            x.due(1, "setPattern", 0, letter);
            x.due(letter == 1 ? 0 : 1, "mismatchesOf", 0, letter);
            x.due(0, "mismatchesOf", 0, letter % 26 + 1);
            x.refused(ARGUMENT, "mismatchesOf", 0, 0);
            x.refused(ARGUMENT, "mismatchesOf", 0, 27);
        }
    }

    @Sentence(promise = 19, says = "Returns the mismatches.")
    static void mismatchesOfFromNoneToTwentyFour() {
        Subject x = of("a".repeat(64), "z".repeat(24));
        x.due(24, "mismatchesOf", 0, 26);
        x.due(24, "mismatchesOf", 40, 26);
        x.due(0, "mismatchesOf", 40, 25);
        of("abc", "").due(0, "mismatchesOf", 3, 1);
        of("", "").due(0, "mismatchesOf", 0, 26);
    }

    @Sentence(promise = 19, says = "Returns the mismatches.")
    static void mismatchesOfForgetsSymbolsThatWereCleared() {
        Subject x = of("abcd", "zzzz");
        x.due(4, "clearPattern");
        x.due(1, "appendPattern", 26);
        x.due(1, "mismatchesOf", 0, 26);
    }

    @Sentence(promise = 19, says = "Throws `IllegalArgumentException` if letter is out of range")
    static void mismatchesOfRefusesWrongLetters() {
        for (int letter : new int[] {0, -1, 27, 28, MOST, LEAST}) {
            of("bbab.", "aba.").refused(ARGUMENT, "mismatchesOf", 0, letter);
            of("bbab.", "aba.").refused(ARGUMENT, "mismatchesOf", 1, letter);
            of("", "").refused(ARGUMENT, "mismatchesOf", 0, letter);
        }
    }

    @Sentence(promise = 19, says = "Throws `IndexOutOfBoundsException` if there is no such place")
    static void mismatchesOfRefusesPlacesThatAreNotThere() {
        for (int place : new int[] {-1, 2, 3, 5, MOST, MOST - 3, LEAST}) {
            of("bbab.", "aba.").refused(INDEX, "mismatchesOf", place, 1);
            of("bbab.", "aba.").refused(INDEX, "mismatchesOf", place, 26);
        }
        of("", "").refused(INDEX, "mismatchesOf", 1, 1);
        of("abc", "").refused(INDEX, "mismatchesOf", 4, 1);
        of("ab", "abc").refused(INDEX, "mismatchesOf", 0, 1);
        of(FULL_TEXT, FULL_PATTERN).refused(INDEX, "mismatchesOf", 41, 1);
    }

    @Sentence(promise = 19, says = SEVERAL_EXCEPTIONS)
    static void mismatchesOfAWrongLetterAtNoPlace() {
        for (int place : new int[] {-1, 2, MOST, LEAST}) {
            for (int letter : new int[] {0, -1, 27, MOST, LEAST}) {
                of("bbab.", "aba.").refused(ARGUMENT, "mismatchesOf", place, letter);
            }
        }
        of("ab", "abc").refused(ARGUMENT, "mismatchesOf", 0, 0);
    }

    // ---- promise 20: nextMismatch

    @Sentence(promise = 20, says = "Returns the first mismatch at a place, from some symbol of the pattern on.")
    static void nextMismatchIsTheFirstFromThereOn() {
        Subject x = of("xabcb", "acc.");
        x.due(0, "nextMismatch", 0, 0);
        x.due(1, "nextMismatch", 0, 1);
        x.due(2, "nextMismatch", 0, 2);
        x.due(1, "nextMismatch", 1, 0);
        x.due(1, "nextMismatch", 1, 1);
        x.due(-1, "nextMismatch", 1, 2);
    }

    @Sentence(promise = 20, says = "- `place`: the place")
    static void nextMismatchAtTheFirstAndTheLastPlace() {
        Subject x = of("az" + "a".repeat(61) + "z", "aa");
        x.due(1, "nextMismatch", 0, 0);
        x.due(0, "nextMismatch", 1, 0);
        x.due(-1, "nextMismatch", 2, 0);
        x.due(1, "nextMismatch", 62, 0);
    }

    @Sentence(promise = 20, says = "- `from`: 0 or more: the first symbol of the pattern that counts")
    static void nextMismatchFromEachSymbolAndBehindThem() {
        Subject x = of("a".repeat(64), "b".repeat(24));
        for (int from = 0; from < 24; from++) {
            x.due(from, "nextMismatch", 40, from);
        }
        x.due(-1, "nextMismatch", 40, 24);
        x.due(-1, "nextMismatch", 40, 25);
        x.refused(ARGUMENT, "nextMismatch", 40, -1);
    }

    @Sentence(promise = 20, says = "- `from`: 0 or more: the first symbol of the pattern that counts")
    static void nextMismatchFromWhereASumWouldWrapRound() {
        Subject x = of("a".repeat(64), "b".repeat(24));
        for (int from : new int[] {MOST, MOST - 1, MOST - 39, MOST - 40, MOST - 63}) {
            x.due(-1, "nextMismatch", 0, from);
            x.due(-1, "nextMismatch", 40, from);
        }
        of("", "").due(-1, "nextMismatch", 0, MOST);
    }

    @Sentence(promise = 20, says = NUMBER_OR_NONE)
    static void nextMismatchIsTheLastSymbolOrNone() {
        Subject x = of("aaab", "aaac");
        x.due(3, "nextMismatch", 0, 0);
        x.due(3, "nextMismatch", 0, 3);
        x.due(BlankMatcher.NONE, "nextMismatch", 0, 4);
        of("aaac", "aaac").due(BlankMatcher.NONE, "nextMismatch", 0, 0);
        of("b..c", ".ab.").due(BlankMatcher.NONE, "nextMismatch", 0, 0);
    }

    @Sentence(promise = 20, says = NUMBER_OR_NONE)
    static void nextMismatchOfTheEmptyPatternIsNone() {
        of("", "").due(BlankMatcher.NONE, "nextMismatch", 0, 0);
        of("abc", "").due(BlankMatcher.NONE, "nextMismatch", 0, 0);
        of("abc", "").due(BlankMatcher.NONE, "nextMismatch", 3, 1);
        of(FULL_TEXT, "").due(BlankMatcher.NONE, "nextMismatch", 64, 0);
    }

    @Sentence(promise = 20, says = "Throws `IllegalArgumentException` if from is below 0")
    static void nextMismatchRefusesFromBelowZero() {
        for (int from : new int[] {-1, -2, -24, LEAST + 1, LEAST}) {
            of("xabcb", "acc.").refused(ARGUMENT, "nextMismatch", 0, from);
            of("xabcb", "acc.").refused(ARGUMENT, "nextMismatch", 1, from);
            of("", "").refused(ARGUMENT, "nextMismatch", 0, from);
        }
    }

    @Sentence(promise = 20, says = "Throws `IndexOutOfBoundsException` if there is no such place")
    static void nextMismatchRefusesPlacesThatAreNotThere() {
        for (int place : new int[] {-1, 2, 3, 5, MOST, MOST - 3, LEAST}) {
            of("xabcb", "acc.").refused(INDEX, "nextMismatch", place, 0);
            of("xabcb", "acc.").refused(INDEX, "nextMismatch", place, 4);
            of("xabcb", "acc.").refused(INDEX, "nextMismatch", place, MOST);
        }
        of("", "").refused(INDEX, "nextMismatch", 1, 0);
        of("abc", "").refused(INDEX, "nextMismatch", 4, 0);
        of("ab", "abc").refused(INDEX, "nextMismatch", 0, 0);
        of(FULL_TEXT, FULL_PATTERN).refused(INDEX, "nextMismatch", 41, 0);
    }

    @Sentence(promise = 20, says = SEVERAL_EXCEPTIONS)
    static void nextMismatchFromBelowZeroAtNoPlace() {
        for (int place : new int[] {-1, 2, MOST, LEAST}) {
            of("xabcb", "acc.").refused(ARGUMENT, "nextMismatch", place, -1);
            of("xabcb", "acc.").refused(ARGUMENT, "nextMismatch", place, LEAST);
        }
        of("ab", "abc").refused(ARGUMENT, "nextMismatch", 0, -1);
    }

    // ---- promise 21: agreement

    @Sentence(promise = 21, says = AGREEMENT)
    static void agreementUntilThereIsAMismatch() {
        Subject x = of("abc.e", "bcdx");
        x.due(3, "agreement", 1, 0);
        x.due(2, "agreement", 2, 1);
        x.due(0, "agreement", 0, 0);
        x.due(1, "agreement", 3, 3);
        of("aabaa", "aacaa").due(2, "agreement", 0, 0);
    }

    @Sentence(promise = 21, says = AGREEMENT)
    static void agreementUntilOneOfBothEnds() {
        of("ab", "bcd").due(1, "agreement", 1, 0);
        of("abcd", "xbc").due(2, "agreement", 1, 1);
        of("abc", "bc").due(2, "agreement", 1, 0);
        of("a", "ab").due(1, "agreement", 0, 0);
    }

    @Sentence(promise = 21, says = AGREEMENT)
    static void agreementForgetsSymbolsThatWereCleared() {
        Subject x = of("aaa", "aaa");
        x.due(3, "clearText");
        x.due(1, "appendText", 1);
        x.due(1, "agreement", 0, 0);
        Subject y = of("aaa", "aaa");
        y.due(3, "clearPattern");
        y.due(1, "appendPattern", 1);
        y.due(1, "agreement", 0, 0);
    }

    @Sentence(promise = 21, says = "- `index`: 0 to the length of the text")
    static void agreementFromTheFirstSymbolToTheEndOfTheText() {
        Subject x = of("aaa", "aaaa");
        x.due(3, "agreement", 0, 0);
        x.due(1, "agreement", 2, 0);
        x.due(0, "agreement", 3, 0);
        x.refused(ARGUMENT, "agreement", -1, 0);
        x.refused(ARGUMENT, "agreement", 4, 0);
        of("a".repeat(64), "a").due(1, "agreement", 63, 0);
        of("a".repeat(64), "a").due(0, "agreement", 64, 0);
    }

    @Sentence(promise = 21, says = "- `from`: 0 to the length of the pattern")
    static void agreementFromTheFirstSymbolToTheEndOfThePattern() {
        Subject x = of("aaaa", "aaa");
        x.due(3, "agreement", 0, 0);
        x.due(1, "agreement", 0, 2);
        x.due(0, "agreement", 0, 3);
        x.refused(ARGUMENT, "agreement", 0, -1);
        x.refused(ARGUMENT, "agreement", 0, 4);
        of("a", "a".repeat(24)).due(1, "agreement", 0, 23);
        of("a", "a".repeat(24)).due(0, "agreement", 0, 24);
    }

    @Sentence(promise = 21, says = "Returns how many.")
    static void agreementFromNoneToTwentyFour() {
        of("", "").due(0, "agreement", 0, 0);
        of("abc", "").due(0, "agreement", 0, 0);
        of("abc", "").due(0, "agreement", 3, 0);
        of("", "abc").due(0, "agreement", 0, 0);
        of("", "abc").due(0, "agreement", 0, 3);
        of("abc", "abc").due(0, "agreement", 3, 3);
        Subject full = of("a".repeat(64), "a".repeat(24));
        full.due(24, "agreement", 0, 0);
        full.due(24, "agreement", 40, 0);
        full.due(23, "agreement", 41, 0);
        full.due(0, "agreement", 64, 24);
    }

    @Sentence(promise = 21, says = "Throws `IllegalArgumentException` if index or from is out of range")
    static void agreementRefusesAWrongIndex() {
        for (int index : new int[] {-1, 6, 63, 64, MOST, LEAST}) {
            of("abc.e", "bcdx").refused(ARGUMENT, "agreement", index, 0);
            of("abc.e", "bcdx").refused(ARGUMENT, "agreement", index, 4);
        }
        of("", "a").refused(ARGUMENT, "agreement", 1, 0);
        of(FULL_TEXT, "a").refused(ARGUMENT, "agreement", 65, 0);
    }

    @Sentence(promise = 21, says = "Throws `IllegalArgumentException` if index or from is out of range")
    static void agreementRefusesAWrongFrom() {
        for (int from : new int[] {-1, 5, 23, 24, MOST, LEAST}) {
            of("abc.e", "bcdx").refused(ARGUMENT, "agreement", 0, from);
            of("abc.e", "bcdx").refused(ARGUMENT, "agreement", 5, from);
        }
        of("a", "").refused(ARGUMENT, "agreement", 0, 1);
        of("a", FULL_PATTERN).refused(ARGUMENT, "agreement", 0, 25);
    }

    @Sentence(promise = 21, says = "Throws `IllegalArgumentException` if index or from is out of range")
    static void agreementRefusesBothWrong() {
        int[][] pairs = {{-1, -1}, {6, 5}, {MOST, MOST}, {LEAST, LEAST}, {MOST, LEAST}, {-1, 5}, {6, -1}};
        for (int[] pair : pairs) {
            of("abc.e", "bcdx").refused(ARGUMENT, "agreement", pair);
        }
        of("", "").refused(ARGUMENT, "agreement", 1, 1);
    }
}
