// Promises 5 to 7, 9, 11 and 12: the calls that change the pattern, and the places.
public final class BlankMatcherPattern extends SentenceTests {
    private static final String NO_SUCH_PART =
        "Throws `IndexOutOfBoundsException` if from is below 0,"
        + " or from + many is greater than the length of the text";

    public static void main(String[] args) {
        run(BlankMatcherPattern.class);
    }

    // ---- promise 5: appendPattern

    @Sentence(promise = 5, says = "Appends a symbol to the pattern.")
    static void appendPatternAppendsAtTheEnd() {
        Subject x = of("c", "ab");
        x.due(3, "appendPattern", 26);
        x.due(4, "appendPattern", 0);
        x.holds("c", "abz.");
    }

    @Sentence(promise = 5, says = "- `symbol`: 0 to 26")
    static void appendPatternTakesEachSymbolAndNoOther() {
        Subject low = of("", "");
        for (int symbol = 0; symbol <= 13; symbol++) {
            low.due(symbol + 1, "appendPattern", symbol);
        }
        low.refusedEach(ARGUMENT, "appendPattern", -1, 27);
        low.holds("", ".abcdefghijklm");
        Subject high = of("", "");
        for (int symbol = 14; symbol <= 26; symbol++) {
            high.due(symbol - 13, "appendPattern", symbol);
        }
        high.refusedEach(ARGUMENT, "appendPattern", -1, 27);
        high.holds("", "nopqrstuvwxyz");
    }

    @Sentence(promise = 5, says = "Returns how long the pattern is then.")
    static void appendPatternAnswersOneToTwentyFour() {
        Subject x = of("c", "");
        for (int length = 1; length <= 24; length++) {
            x.due(length, "appendPattern", 2);
        }
        x.due(24, "patternLength");
    }

    @Sentence(promise = 5, says = "Returns how long the pattern is then.")
    static void appendPatternAnswersOneAgainBehindClearPattern() {
        Subject x = of("", FULL_PATTERN);
        x.due(24, "clearPattern");
        x.due(1, "appendPattern", 2);
    }

    @Sentence(promise = 5, says = "Throws `IllegalArgumentException` if symbol is out of range")
    static void appendPatternRefusesWrongSymbols() {
        for (String pattern : new String[] {"", "ab", FULL_PATTERN.substring(1)}) {
            of("a", pattern).refusedEach(ARGUMENT, "appendPattern", -1, 27, -26, 64, 256, 1 << 16, MOST, LEAST);
        }
    }

    @Sentence(promise = 5, says = "Throws `IllegalStateException` if the pattern has 24 symbols")
    static void appendPatternRefusesTheSymbolTwentyFive() {
        Subject x = of("", FULL_PATTERN.substring(0, 23));
        x.due(24, "appendPattern", 0);
        x.refusedEach(STATE, "appendPattern", 0, 1, 26);
        x.holds("", FULL_PATTERN);
    }

    @Sentence(promise = 5, says = "Throws `IllegalStateException` if the pattern has 24 symbols")
    static void appendPatternToOneThatWasTaken() {
        Subject x = of(FULL_TEXT, "");
        x.due(0, "takePattern", 0, 24);
        x.refused(STATE, "appendPattern", 1);
        x.due(0, "takePattern", 0, 23);
        x.due(24, "appendPattern", 1);
        x.refused(STATE, "appendPattern", 1);
    }

    @Sentence(promise = 5, says = "Throws `IllegalStateException` if the pattern has 24 symbols")
    static void appendPatternAnswersBesideAFullText() {
        Subject x = of(FULL_TEXT, "");
        x.due(1, "appendPattern", 1);
        x.holds(FULL_TEXT, "a");
    }

    @Sentence(promise = 5, says = SEVERAL_EXCEPTIONS)
    static void appendPatternOfAWrongSymbolToAFullPattern() {
        of("", FULL_PATTERN).refusedEach(ARGUMENT, "appendPattern", -1, 27, MOST, LEAST);
    }

    @Sentence(promise = 5, says = CHANGES_NOTHING)
    static void appendPatternGoesOnBehindARefusal() {
        Subject x = of("c", "ab");
        x.refused(ARGUMENT, "appendPattern", 27);
        x.due(3, "appendPattern", 4);
        x.holds("c", "abd");
        Subject full = of("c", FULL_PATTERN);
        full.refused(STATE, "appendPattern", 1);
        full.due(0, "setPattern", 23, 5);
        full.due(26, "setPattern", 0, 6);
        full.due(24, "patternLength");
    }

    // ---- promise 6: setPattern

    @Sentence(promise = 6, says = "Replaces a symbol of the pattern.")
    static void setPatternReplacesThatSymbolAlone() {
        Subject x = of("ab", "abc");
        x.due(2, "setPattern", 1, 26);
        x.holds("ab", "azc");
        x.due(3, "patternLength");
    }

    @Sentence(promise = 6, says = "Replaces a symbol of the pattern.")
    static void setPatternLeavesTheTextThatWasTaken() {
        Subject x = of("abc", "");
        x.due(0, "takePattern", 0, 3);
        x.due(1, "setPattern", 0, 26);
        x.holds("abc", "zbc");
    }

    @Sentence(promise = 6, says = "- `index`: its number")
    static void setPatternTakesTheFirstAndTheLastNumber() {
        Subject x = of("", FULL_PATTERN);
        x.due(26, "setPattern", 0, 1);
        x.due(0, "setPattern", 23, 25);
        x.holds("", "a" + FULL_PATTERN.substring(1, 23) + "y");
    }

    @Sentence(promise = 6, says = "- `symbol`: 0 to 26")
    static void setPatternTakesEachSymbolAndNoOther() {
        Subject x = of("", "ab");
        int before = 2;
        for (int symbol = 0; symbol <= 26; symbol++) {
            x.due(before, "setPattern", 1, symbol);
            before = symbol;
        }
        x.refused(ARGUMENT, "setPattern", 1, -1);
        x.refused(ARGUMENT, "setPattern", 1, 27);
        x.holds("", "az");
    }

    @Sentence(promise = 6, says = "Returns the symbol before.")
    static void setPatternAnswersTheSymbolBefore() {
        Subject x = of("", "z.");
        x.due(26, "setPattern", 0, 0);
        x.due(0, "setPattern", 0, 5);
        x.due(5, "setPattern", 0, 5);
        x.due(5, "setPattern", 0, 6);
        x.due(0, "setPattern", 1, 1);
    }

    @Sentence(promise = 6, says = "Throws `IndexOutOfBoundsException` if there is no such symbol in the pattern")
    static void setPatternRefusesNumbersThatAreNotThere() {
        for (int index : new int[] {-1, 3, 4, 23, 24, MOST, LEAST}) {
            of("abcd", "abc").refused(INDEX, "setPattern", index, 1);
        }
        of("a", "").refused(INDEX, "setPattern", 0, 1);
        of("", FULL_PATTERN).refused(INDEX, "setPattern", 24, 1);
        of("", FULL_PATTERN).refused(INDEX, "setPattern", -1, 1);
    }

    @Sentence(promise = 6, says = "Throws `IndexOutOfBoundsException` if there is no such symbol in the pattern")
    static void setPatternRefusesSymbolsThatWereCleared() {
        Subject x = of("a", "abc");
        x.due(3, "clearPattern");
        x.refused(INDEX, "setPattern", 0, 1);
        x.due(0, "takePattern", 0, 1);
        x.refused(INDEX, "setPattern", 1, 1);
        x.due(1, "setPattern", 0, 2);
    }

    @Sentence(promise = 6, says = "Throws `IllegalArgumentException` if symbol is out of range")
    static void setPatternRefusesWrongSymbols() {
        for (int symbol : new int[] {-1, 27, -26, 256, 1 << 16, MOST, LEAST}) {
            of("a", "abc").refused(ARGUMENT, "setPattern", 0, symbol);
            of("a", "abc").refused(ARGUMENT, "setPattern", 2, symbol);
        }
    }

    @Sentence(promise = 6, says = SEVERAL_EXCEPTIONS)
    static void setPatternOfAWrongSymbolWhereNoneIs() {
        for (int symbol : new int[] {-1, 27, MOST, LEAST}) {
            of("", "abc").refused(INDEX, "setPattern", -1, symbol);
            of("", "abc").refused(INDEX, "setPattern", 3, symbol);
            of("", "").refused(INDEX, "setPattern", 0, symbol);
            of("", FULL_PATTERN).refused(INDEX, "setPattern", 24, symbol);
        }
    }

    @Sentence(promise = 6, says = CHANGES_NOTHING)
    static void setPatternGoesOnBehindARefusal() {
        Subject x = of("q", "abc");
        x.refused(ARGUMENT, "setPattern", 1, 27);
        x.refused(INDEX, "setPattern", 3, 5);
        x.due(2, "setPattern", 1, 6);
        x.due(4, "appendPattern", 7);
        x.holds("q", "afcg");
    }

    // ---- promise 7: takePattern

    @Sentence(promise = 7, says = "Makes the pattern equal to a part of the text.")
    static void takePatternReplacesTheWholePattern() {
        Subject x = of("ab..c.d", "xyzxyzxyz");
        x.due(2, "takePattern", 1, 4);
        x.holds("ab..c.d", "b..c");
        x.due(3, "takePattern", 0, 7);
        x.holds("ab..c.d", "ab..c.d");
        x.due(0, "takePattern", 3, 0);
        x.holds("ab..c.d", "");
    }

    @Sentence(promise = 7, says = "Makes the pattern equal to a part of the text.")
    static void takePatternKeepsItWhenTheTextChanges() {
        Subject x = of("abc", "");
        x.due(0, "takePattern", 0, 2);
        x.due(2, "setText", 1, 26);
        x.holds("azc", "ab");
        x.due(3, "clearText");
        x.holds("", "ab");
    }

    @Sentence(promise = 7, says = "- `from`: the first symbol, 0 or more")
    static void takePatternFromTheFirstSymbolAndFromTheEnd() {
        Subject x = of("abc", "q");
        x.due(0, "takePattern", 0, 1);
        x.holds("abc", "a");
        x.due(0, "takePattern", 2, 1);
        x.holds("abc", "c");
        x.due(0, "takePattern", 3, 0);
        x.holds("abc", "");
        x.refused(INDEX, "takePattern", -1, 1);
    }

    @Sentence(promise = 7, says = "- `many`: how many symbols, 0 to 24")
    static void takePatternTakesNoneToTwentyFour() {
        for (int many = 0; many <= 24; many++) {
            Subject x = of(FULL_TEXT, "q");
            x.due(0, "takePattern", 1, many);
            x.due(many, "patternLength");
            x.holds(FULL_TEXT, FULL_TEXT.substring(1, 1 + many));
        }
        of(FULL_TEXT, "q").refused(ARGUMENT, "takePattern", 1, -1);
        of(FULL_TEXT, "q").refused(ARGUMENT, "takePattern", 1, 25);
    }

    @Sentence(promise = 7, says = "Returns how many blanks the pattern has then.")
    static void takePatternAnswersNoBlankToTwentyFour() {
        String text = "a".repeat(24) + ".".repeat(24);
        for (int from = 0; from <= 24; from++) {
            of(text, "").due(from, "takePattern", from, 24);
        }
    }

    @Sentence(promise = 7, says = "Returns how many blanks the pattern has then.")
    static void takePatternCountsTheNewBlanksAlone() {
        Subject x = of("a.b.", "....");
        x.due(0, "takePattern", 0, 1);
        x.due(1, "takePattern", 0, 2);
        x.due(1, "takePattern", 1, 2);
        x.due(2, "takePattern", 1, 3);
        x.due(0, "takePattern", 4, 0);
        of("", "..").due(0, "takePattern", 0, 0);
    }

    @Sentence(promise = 7, says = "Throws `IllegalArgumentException` if many is out of range")
    static void takePatternRefusesManyOutOfRange() {
        for (int many : new int[] {-1, 25, -24, 64, MOST, LEAST}) {
            of(FULL_TEXT, "q").refused(ARGUMENT, "takePattern", 0, many);
            of("a".repeat(25), "q").refused(ARGUMENT, "takePattern", 0, many);
            of("abc", "q").refused(ARGUMENT, "takePattern", 2, many);
        }
    }

    @Sentence(promise = 7, says = NO_SUCH_PART)
    static void takePatternRefusesFromBelowZero() {
        for (int from : new int[] {-1, -2, -24, LEAST}) {
            of("abc", "q").refused(INDEX, "takePattern", from, 0);
            of("abc", "q").refused(INDEX, "takePattern", from, 1);
            of(FULL_TEXT, "q").refused(INDEX, "takePattern", from, 24);
            of("", "q").refused(INDEX, "takePattern", from, 0);
        }
    }

    @Sentence(promise = 7, says = NO_SUCH_PART)
    static void takePatternRefusesAPartBehindTheEnd() {
        int[][] parts = {{4, 0}, {3, 1}, {2, 2}, {0, 4}, {0, 24}, {3, 24}};
        for (int[] part : parts) {
            of("abc", "q").refused(INDEX, "takePattern", part);
        }
        of("", "q").refused(INDEX, "takePattern", 1, 0);
        of("", "q").refused(INDEX, "takePattern", 0, 1);
        of(FULL_TEXT, "q").refused(INDEX, "takePattern", 65, 0);
        of(FULL_TEXT, "q").refused(INDEX, "takePattern", 64, 1);
        of(FULL_TEXT, "q").refused(INDEX, "takePattern", 41, 24);
    }

    @Sentence(promise = 7, says = NO_SUCH_PART)
    static void takePatternAnswersUpToTheEnd() {
        Subject x = of("abc", "q");
        x.due(0, "takePattern", 3, 0);
        x.due(0, "takePattern", 2, 1);
        x.due(0, "takePattern", 0, 3);
        x.holds("abc", "abc");
        Subject full = of(FULL_TEXT, "q");
        full.due(0, "takePattern", 64, 0);
        full.due(1, "takePattern", 40, 24);
        full.holds(FULL_TEXT, FULL_TEXT.substring(40));
        of("", "q").due(0, "takePattern", 0, 0);
    }

    @Sentence(promise = 7, says = NO_SUCH_PART)
    static void takePatternRefusesSumsThatWrapRound() {
        int[][] parts = {
            {MOST, 0}, {MOST, 1}, {MOST, 2}, {MOST, 24}, {MOST - 23, 24}, {MOST - 22, 24}, {LEAST, 0}, {LEAST, 24},
        };
        for (int[] part : parts) {
            of("", "q").refused(INDEX, "takePattern", part);
            of("abc", "q").refused(INDEX, "takePattern", part);
            of(FULL_TEXT, "q").refused(INDEX, "takePattern", part);
        }
    }

    @Sentence(promise = 7, says = SEVERAL_EXCEPTIONS)
    static void takePatternOfAWrongManyWhereNothingIs() {
        int[][] parts = {{-1, -1}, {-1, 25}, {4, -1}, {4, 25}, {MOST, MOST}, {LEAST, LEAST}, {LEAST, MOST}};
        for (int[] part : parts) {
            of("abc", "q").refused(ARGUMENT, "takePattern", part);
        }
        of("", "q").refused(ARGUMENT, "takePattern", 0, 25);
        of(FULL_TEXT, "q").refused(ARGUMENT, "takePattern", 64, 25);
    }

    @Sentence(promise = 7, says = CHANGES_NOTHING)
    static void takePatternGoesOnBehindARefusal() {
        Subject x = of("a".repeat(25), "q.");
        x.refused(ARGUMENT, "takePattern", 0, 25);
        x.refused(INDEX, "takePattern", 2, 24);
        x.due(2, "patternLength");
        x.due(3, "appendPattern", 3);
        x.holds("a".repeat(25), "q.c");
    }

    // ---- promise 9: clearPattern

    @Sentence(promise = 9, says = "Makes the pattern empty.")
    static void clearPatternLeavesTheText() {
        Subject x = of("abcab", "ab");
        x.due(2, "clearPattern");
        x.holds("abcab", "");
        x.due(1, "appendPattern", 3);
        x.holds("abcab", "c");
    }

    @Sentence(promise = 9, says = "Makes the pattern empty.")
    static void clearPatternMakesRoomForAFullPattern() {
        Subject x = of("abc", FULL_PATTERN);
        x.due(24, "clearPattern");
        x.due(4, "places");
        for (int length = 1; length <= 24; length++) {
            x.due(length, "appendPattern", 5);
        }
        x.refused(STATE, "appendPattern", 5);
        x.holds("abc", "e".repeat(24));
    }

    @Sentence(promise = 9, says = "Returns how long it was.")
    static void clearPatternAnswersTheLength() {
        Subject empty = of("ab", "");
        empty.due(0, "clearPattern");
        empty.due(0, "clearPattern");
        Subject one = of("ab", ".");
        one.due(1, "clearPattern");
        one.due(0, "clearPattern");
        Subject full = of("ab", FULL_PATTERN);
        full.due(24, "clearPattern");
        full.due(0, "clearPattern");
    }

    // ---- promise 11: patternLength

    @Sentence(promise = 11, says = "Returns how long the pattern is.")
    static void patternLengthFollowsThePattern() {
        Subject x = of("abcde", "ab");
        x.due(2, "patternLength");
        x.due(3, "appendPattern", 0);
        x.due(3, "patternLength");
        x.due(1, "setPattern", 0, 2);
        x.due(3, "patternLength");
        x.due(0, "takePattern", 1, 4);
        x.due(4, "patternLength");
        x.due(5, "clearText");
        x.due(4, "patternLength");
        x.due(4, "clearPattern");
        x.due(0, "patternLength");
    }

    @Sentence(promise = 11, says = "Returns 0 to 24.")
    static void patternLengthOfTheEmptyAndTheFullPattern() {
        of("", "").due(0, "patternLength");
        of(FULL_TEXT, "").due(0, "patternLength");
        of("", "a").due(1, "patternLength");
        of("", FULL_PATTERN.substring(1)).due(23, "patternLength");
        of("", FULL_PATTERN).due(24, "patternLength");
        of(FULL_TEXT, FULL_PATTERN).due(24, "patternLength");
    }

    // ---- promise 12: places

    @Sentence(promise = 12, says = "Returns how many places there are.")
    static void placesOfEachLength() {
        for (int length = 0; length <= 24; length++) {
            Subject x = of("a".repeat(length), "b".repeat(12));
            x.due(Math.max(0, length - 11), "places");
        }
    }

    @Sentence(promise = 12, says = "Returns 0 or more.")
    static void placesIsNeverBelowZero() {
        of("", "a").due(0, "places");
        of("", "ab").due(0, "places");
        of("", FULL_PATTERN).due(0, "places");
        of("a", FULL_PATTERN).due(0, "places");
        of(FULL_PATTERN.substring(1), FULL_PATTERN).due(0, "places");
        of(FULL_PATTERN, FULL_PATTERN).due(1, "places");
    }

    @Sentence(promise = 12, says = "Returns 0 or more.")
    static void placesIsAtMostSixtyFive() {
        of("", "").due(1, "places");
        of(FULL_TEXT, "").due(65, "places");
        of(FULL_TEXT, "a").due(64, "places");
        of(FULL_TEXT, FULL_PATTERN).due(41, "places");
    }
}
