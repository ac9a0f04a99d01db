// Promises 1 to 4 and 8, 10: a new object and the calls that change the text.
public final class BlankMatcherText extends SentenceTests {
    private static final String NO_SUCH_PART =
        "Throws `IndexOutOfBoundsException` if the text does not have the symbols from to from + many - 1";

    public static void main(String[] args) {
        run(BlankMatcherText.class);
    }

    // ---- promise 1: a new object

    @Sentence(promise = 1, says = "Creates an empty text and an empty pattern.")
    static void newTextIsEmpty() {
        Subject x = of("", "");
        x.due(0, "textLength");
        x.due(1, "leastPeriod");
        x.due(1, "hasPeriod", 1);
        x.refused(INDEX, "setText", 0, 1);
        x.refused(INDEX, "repeatText", 0, 1);
        x.refused(INDEX, "takePattern", 0, 1);
        x.refused(ARGUMENT, "agreement", 1, 0);
        x.due(0, "clearText");
        x.due(1, "appendText", 1);
    }

    @Sentence(promise = 1, says = "Creates an empty text and an empty pattern.")
    static void newPatternIsEmpty() {
        Subject x = of("", "");
        x.due(0, "patternLength");
        x.refused(INDEX, "setPattern", 0, 1);
        x.refused(INDEX, "bestLetter", 0);
        x.refused(ARGUMENT, "agreement", 0, 1);
        x.due(0, "clearPattern");
        x.due(1, "appendPattern", 1);
    }

    @Sentence(promise = 1, says = "Creates an empty text and an empty pattern.")
    static void newObjectHasOnePlaceWhereAllIsAlike() {
        Subject x = of("", "");
        for (String counted : new String[] {"places", "matches", "apart", "sumMatches", "orderMatches"}) {
            x.due(1, counted);
        }
        for (String numbered : new String[] {"match", "ranked", "sumMatch", "orderMatch", "difference", "mismatches"}) {
            x.due(0, numbered, 0);
            x.refused(INDEX, numbered, 1);
        }
        x.due(0, "mismatchesOf", 0, 1);
        x.due(-1, "nextMismatch", 0, 0);
        x.due(0, "agreement", 0, 0);
        x.due(1, "within", 0);
        x.due(0, "product", 0);
        x.due(0, "takePattern", 0, 0);
    }

    @Sentence(promise = 1, says = "Creates an empty text and an empty pattern.")
    static void newObjectIsEmptyBesideAFullOne() {
        Subject full = of(FULL_TEXT, FULL_PATTERN);
        Subject x = of("", "");
        x.due(0, "textLength");
        x.due(0, "patternLength");
        full.due(64, "textLength");
        full.due(24, "patternLength");
        x.due(1, "appendText", 26);
        x.due(1, "appendPattern", 25);
        full.due(1, "setText", 0, 3);
        full.due(26, "setPattern", 0, 4);
        x.due(26, "setText", 0, 1);
        x.due(25, "setPattern", 0, 1);
    }

    // ---- promise 2: appendText

    @Sentence(promise = 2, says = "Appends a symbol to the text.")
    static void appendTextAppendsAtTheEnd() {
        Subject x = of("ab", "c");
        x.due(3, "appendText", 26);
        x.due(4, "appendText", 0);
        x.holds("abz.", "c");
    }

    @Sentence(promise = 2, says = "- `symbol`: 0 to 26")
    static void appendTextTakesEachSymbolAndNoOther() {
        Subject x = of("", "");
        for (int symbol = 0; symbol <= 26; symbol++) {
            x.due(symbol + 1, "appendText", symbol);
        }
        x.refusedEach(ARGUMENT, "appendText", -1, 27);
        x.holds(".abcdefghijklmnopqrstuvwxyz", "");
    }

    @Sentence(promise = 2, says = "Returns how long the text is then.")
    static void appendTextAnswersOneToSixtyFour() {
        Subject x = of("", "c");
        for (int length = 1; length <= 64; length++) {
            x.due(length, "appendText", 2);
        }
        x.due(64, "textLength");
    }

    @Sentence(promise = 2, says = "Returns how long the text is then.")
    static void appendTextAnswersOneAgainBehindClearText() {
        Subject x = of(FULL_TEXT, "");
        x.due(64, "clearText");
        x.due(1, "appendText", 2);
    }

    @Sentence(promise = 2, says = "Throws `IllegalArgumentException` if symbol is out of range")
    static void appendTextRefusesWrongSymbols() {
        for (String text : new String[] {"", "ab", FULL_TEXT.substring(1)}) {
            of(text, "a").refusedEach(ARGUMENT, "appendText", -1, 27, -26, 64, 256, 1 << 16, MOST, LEAST);
        }
    }

    @Sentence(promise = 2, says = "Throws `IllegalStateException` if the text has 64 symbols")
    static void appendTextRefusesTheSymbolSixtyFive() {
        Subject x = of(FULL_TEXT.substring(0, 63), "");
        x.due(64, "appendText", 10);
        x.refusedEach(STATE, "appendText", 0, 1, 26);
        x.holds(FULL_TEXT, "");
    }

    @Sentence(promise = 2, says = "Throws `IllegalStateException` if the text has 64 symbols")
    static void appendTextAnswersBesideAFullPattern() {
        Subject x = of("", FULL_PATTERN);
        x.due(1, "appendText", 1);
        x.holds("a", FULL_PATTERN);
    }

    @Sentence(promise = 2, says = SEVERAL_EXCEPTIONS)
    static void appendTextOfAWrongSymbolToAFullText() {
        of(FULL_TEXT, "").refusedEach(ARGUMENT, "appendText", -1, 27, MOST, LEAST);
    }

    @Sentence(promise = 2, says = CHANGES_NOTHING)
    static void appendTextGoesOnBehindARefusal() {
        Subject x = of("ab", "c");
        x.refused(ARGUMENT, "appendText", 27);
        x.due(3, "appendText", 4);
        x.holds("abd", "c");
        Subject full = of(FULL_TEXT, "c");
        full.refused(STATE, "appendText", 1);
        full.due(10, "setText", 63, 5);
        full.due(1, "setText", 0, 6);
        full.due(64, "textLength");
    }

    // ---- promise 3: repeatText

    @Sentence(promise = 3, says = "Appends a part of the text to the text once more.")
    static void repeatTextAppendsAPart() {
        Subject x = of("abc.", "q");
        x.due(6, "repeatText", 1, 2);
        x.holds("abc.bc", "q");
        x.due(8, "repeatText", 3, 2);
        x.holds("abc.bc.b", "q");
        x.due(16, "repeatText", 0, 8);
        x.holds("abc.bc.babc.bc.b", "q");
    }

    @Sentence(promise = 3, says = "- `from`: the first symbol, 0 or more")
    static void repeatTextFromTheFirstAndTheLastSymbol() {
        Subject x = of("abc", "");
        x.due(4, "repeatText", 0, 1);
        x.due(5, "repeatText", 2, 1);
        x.holds("abcac", "");
        x.refused(INDEX, "repeatText", -1, 1);
        x.refused(INDEX, "repeatText", 5, 1);
    }

    @Sentence(promise = 3, says = "- `many`: how many symbols, 1 or more")
    static void repeatTextOfOneSymbolAndOfAll() {
        Subject x = of("abc", "");
        x.due(4, "repeatText", 1, 1);
        x.due(8, "repeatText", 0, 4);
        x.holds("abcbabcb", "");
        x.refused(ARGUMENT, "repeatText", 0, 0);
        x.refused(INDEX, "repeatText", 0, 9);
    }

    @Sentence(promise = 3, says = "Returns how long the text is then.")
    static void repeatTextAnswersTwoToSixtyFour() {
        Subject x = of("a", "");
        for (int length = 1; length <= 32; length *= 2) {
            x.due(2 * length, "repeatText", 0, length);
        }
        x.due(64, "textLength");
        x.holds("a".repeat(64), "");
    }

    @Sentence(promise = 3, says = "Throws `IllegalArgumentException` if many is below 1")
    static void repeatTextRefusesManyBelowOne() {
        for (int many : new int[] {0, -1, -64, LEAST + 1, LEAST}) {
            of("abc", "a").refused(ARGUMENT, "repeatText", 0, many);
            of("abc", "a").refused(ARGUMENT, "repeatText", 2, many);
        }
    }

    @Sentence(promise = 3, says = NO_SUCH_PART)
    static void repeatTextRefusesAFirstSymbolThatIsNotThere() {
        for (int from : new int[] {-1, -2, 3, 4, 63, 64, MOST, LEAST}) {
            of("abc", "a").refused(INDEX, "repeatText", from, 1);
        }
        of("abc", "a").refused(INDEX, "repeatText", -1, 2);
        of("", "a").refused(INDEX, "repeatText", 0, 1);
    }

    @Sentence(promise = 3, says = NO_SUCH_PART)
    static void repeatTextRefusesALastSymbolThatIsNotThere() {
        Subject x = of("abc", "a");
        x.refused(INDEX, "repeatText", 0, 4);
        x.refused(INDEX, "repeatText", 1, 3);
        x.refused(INDEX, "repeatText", 2, 2);
        x.due(4, "repeatText", 2, 1);
        x.due(7, "repeatText", 1, 3);
        x.due(14, "repeatText", 0, 7);
    }

    @Sentence(promise = 3, says = NO_SUCH_PART)
    static void repeatTextRefusesSymbolsBehindTheTextThatWereCleared() {
        Subject x = of("abcdef", "");
        x.due(6, "clearText");
        x.due(1, "appendText", 1);
        x.refused(INDEX, "repeatText", 0, 2);
        x.refused(INDEX, "repeatText", 1, 1);
    }

    @Sentence(promise = 3, says = NO_SUCH_PART)
    static void repeatTextRefusesSumsThatWrapRound() {
        int[][] parts = {
            {1, MOST}, {2, MOST}, {3, MOST}, {MOST, 1}, {MOST, 2}, {MOST, 3}, {MOST - 1, 3}, {MOST, MOST},
            {LEAST, 1}, {LEAST, MOST}, {-1, MOST}, {0, MOST}, {1 << 30, 1 << 30}, {-3, 4},
        };
        for (int[] part : parts) {
            of("", "").refused(INDEX, "repeatText", part);
            of("abc", "").refused(INDEX, "repeatText", part);
            of(FULL_TEXT, "").refused(INDEX, "repeatText", part);
        }
    }

    @Sentence(promise = 3, says = "Throws `IllegalStateException` if the text would have more than 64 symbols")
    static void repeatTextFillsTheTextAndNoMore() {
        Subject x = of(FULL_TEXT.substring(0, 33), "");
        x.refused(STATE, "repeatText", 0, 33);
        x.refused(STATE, "repeatText", 1, 32);
        x.refused(STATE, "repeatText", 0, 32);
        x.due(64, "repeatText", 2, 31);
        x.holds(FULL_TEXT.substring(0, 33) + FULL_TEXT.substring(2, 33), "");
    }

    @Sentence(promise = 3, says = "Throws `IllegalStateException` if the text would have more than 64 symbols")
    static void repeatTextOfAnAlmostFullText() {
        Subject x = of(FULL_TEXT.substring(0, 63), "");
        x.refused(STATE, "repeatText", 61, 2);
        x.due(64, "repeatText", 0, 1);
        x.refused(STATE, "repeatText", 63, 1);
        x.refused(STATE, "repeatText", 0, 1);
        x.refused(STATE, "repeatText", 0, 64);
    }

    @Sentence(promise = 3, says = SEVERAL_EXCEPTIONS)
    static void repeatTextOfTooFewWhereNothingIs() {
        for (int from : new int[] {-1, 3, 64, MOST, LEAST}) {
            of("abc", "").refused(ARGUMENT, "repeatText", from, 0);
            of("abc", "").refused(ARGUMENT, "repeatText", from, LEAST);
            of(FULL_TEXT, "").refused(ARGUMENT, "repeatText", from, 0);
        }
        of("", "").refused(ARGUMENT, "repeatText", 0, 0);
        of(FULL_TEXT, "").refused(ARGUMENT, "repeatText", 0, 0);
        of(FULL_TEXT, "").refused(ARGUMENT, "repeatText", LEAST, LEAST);
    }

    @Sentence(promise = 3, says = SEVERAL_EXCEPTIONS)
    static void repeatTextOfTooManyThatAreNotThere() {
        Subject x = of(FULL_TEXT.substring(0, 40), "");
        x.refused(INDEX, "repeatText", 16, 25);
        x.refused(INDEX, "repeatText", 40, 25);
        x.refused(INDEX, "repeatText", -1, 25);
        Subject full = of(FULL_TEXT, "");
        full.refused(INDEX, "repeatText", 64, 1);
        full.refused(INDEX, "repeatText", 1, 64);
        full.refused(INDEX, "repeatText", -1, 1);
        full.refused(INDEX, "repeatText", 0, MOST);
    }

    @Sentence(promise = 3, says = CHANGES_NOTHING)
    static void repeatTextGoesOnBehindARefusal() {
        Subject x = of(FULL_TEXT.substring(0, 40), "q");
        x.refused(ARGUMENT, "repeatText", 0, 0);
        x.refused(INDEX, "repeatText", 39, 2);
        x.refused(STATE, "repeatText", 0, 25);
        x.due(40, "textLength");
        x.due(42, "repeatText", 0, 2);
        x.holds(FULL_TEXT.substring(0, 40) + "ab", "q");
    }

    // ---- promise 4: setText

    @Sentence(promise = 4, says = "Replaces a symbol of the text.")
    static void setTextReplacesThatSymbolAlone() {
        Subject x = of("abc", "ab");
        x.due(2, "setText", 1, 26);
        x.holds("azc", "ab");
        x.due(3, "textLength");
    }

    @Sentence(promise = 4, says = "- `index`: its number")
    static void setTextTakesTheFirstAndTheLastNumber() {
        Subject x = of(FULL_TEXT, "");
        x.due(1, "setText", 0, 26);
        x.due(10, "setText", 63, 25);
        x.holds("z" + FULL_TEXT.substring(1, 63) + "y", "");
    }

    @Sentence(promise = 4, says = "- `symbol`: 0 to 26")
    static void setTextTakesEachSymbolAndNoOther() {
        Subject x = of("ab", "");
        int before = 2;
        for (int symbol = 0; symbol <= 26; symbol++) {
            x.due(before, "setText", 1, symbol);
            before = symbol;
        }
        x.refused(ARGUMENT, "setText", 1, -1);
        x.refused(ARGUMENT, "setText", 1, 27);
        x.holds("az", "");
    }

    @Sentence(promise = 4, says = "Returns the symbol before.")
    static void setTextAnswersTheSymbolBefore() {
        Subject x = of("z.", "");
        x.due(26, "setText", 0, 0);
        x.due(0, "setText", 0, 5);
        x.due(5, "setText", 0, 5);
        x.due(5, "setText", 0, 6);
        x.due(0, "setText", 1, 1);
    }

    @Sentence(promise = 4, says = "Throws `IndexOutOfBoundsException` if there is no such symbol in the text")
    static void setTextRefusesNumbersThatAreNotThere() {
        for (int index : new int[] {-1, 3, 4, 63, 64, MOST, LEAST}) {
            of("abc", "abcd").refused(INDEX, "setText", index, 1);
        }
        of("", "a").refused(INDEX, "setText", 0, 1);
        of(FULL_TEXT, "").refused(INDEX, "setText", 64, 1);
        of(FULL_TEXT, "").refused(INDEX, "setText", -1, 1);
    }

    @Sentence(promise = 4, says = "Throws `IndexOutOfBoundsException` if there is no such symbol in the text")
    static void setTextRefusesSymbolsThatWereCleared() {
        Subject x = of("abc", "");
        x.due(3, "clearText");
        x.refused(INDEX, "setText", 0, 1);
        x.due(1, "appendText", 1);
        x.refused(INDEX, "setText", 1, 1);
        x.due(1, "setText", 0, 2);
    }

    @Sentence(promise = 4, says = "Throws `IllegalArgumentException` if symbol is out of range")
    static void setTextRefusesWrongSymbols() {
        for (int symbol : new int[] {-1, 27, -26, 256, 1 << 16, MOST, LEAST}) {
            of("abc", "a").refused(ARGUMENT, "setText", 0, symbol);
            of("abc", "a").refused(ARGUMENT, "setText", 2, symbol);
        }
    }

    @Sentence(promise = 4, says = SEVERAL_EXCEPTIONS)
    static void setTextOfAWrongSymbolWhereNoneIs() {
        for (int symbol : new int[] {-1, 27, MOST, LEAST}) {
            of("abc", "").refused(INDEX, "setText", -1, symbol);
            of("abc", "").refused(INDEX, "setText", 3, symbol);
            of("", "").refused(INDEX, "setText", 0, symbol);
            of(FULL_TEXT, "").refused(INDEX, "setText", 64, symbol);
        }
    }

    @Sentence(promise = 4, says = CHANGES_NOTHING)
    static void setTextGoesOnBehindARefusal() {
        Subject x = of("abc", "q");
        x.refused(ARGUMENT, "setText", 1, 27);
        x.refused(INDEX, "setText", 3, 5);
        x.due(2, "setText", 1, 6);
        x.due(4, "appendText", 7);
        x.holds("afcg", "q");
    }

    // ---- promise 8: clearText

    @Sentence(promise = 8, says = "Makes the text empty.")
    static void clearTextLeavesThePattern() {
        Subject x = of("abcab", "ab");
        x.due(5, "clearText");
        x.holds("", "ab");
        x.due(1, "appendText", 3);
        x.holds("c", "ab");
    }

    @Sentence(promise = 8, says = "Makes the text empty.")
    static void clearTextMakesRoomForAFullText() {
        Subject x = of(FULL_TEXT, "");
        x.due(64, "clearText");
        x.due(1, "leastPeriod");
        for (int length = 1; length <= 64; length++) {
            x.due(length, "appendText", 5);
        }
        x.refused(STATE, "appendText", 5);
        x.holds("e".repeat(64), "");
    }

    @Sentence(promise = 8, says = "Returns how long it was.")
    static void clearTextAnswersTheLength() {
        Subject empty = of("", "ab");
        empty.due(0, "clearText");
        empty.due(0, "clearText");
        Subject one = of(".", "ab");
        one.due(1, "clearText");
        one.due(0, "clearText");
        Subject full = of(FULL_TEXT, "ab");
        full.due(64, "clearText");
        full.due(0, "clearText");
    }

    // ---- promise 10: textLength

    @Sentence(promise = 10, says = "Returns how long the text is.")
    static void textLengthFollowsTheText() {
        Subject x = of("abc", "ab");
        x.due(3, "textLength");
        x.due(4, "appendText", 0);
        x.due(4, "textLength");
        x.due(6, "repeatText", 0, 2);
        x.due(6, "textLength");
        x.due(1, "setText", 0, 2);
        x.due(6, "textLength");
        x.due(1, "takePattern", 2, 3);
        x.due(6, "textLength");
        x.due(6, "clearText");
        x.due(0, "textLength");
    }

    @Sentence(promise = 10, says = "Returns 0 to 64.")
    static void textLengthOfTheEmptyAndTheFullText() {
        of("", "").due(0, "textLength");
        of("", FULL_PATTERN).due(0, "textLength");
        of("a", "").due(1, "textLength");
        of(FULL_TEXT.substring(1), "").due(63, "textLength");
        of(FULL_TEXT, "").due(64, "textLength");
        of(FULL_TEXT, FULL_PATTERN).due(64, "textLength");
    }
}
