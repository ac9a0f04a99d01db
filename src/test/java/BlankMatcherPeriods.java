// Promises 29 and 30: periods.
public final class BlankMatcherPeriods extends SentenceTests {
    private static final int YES = 1;
    private static final int NO = 0;

    private static final String HAS_PERIOD =
        "Tells whether the text has a period: whether each two symbols of the text that are just"
        + " so far apart, no farther, agree.";

    public static void main(String[] args) {
        run(BlankMatcherPeriods.class);
    }

    // ---- promise 29: hasPeriod

    @Sentence(promise = 29, says = HAS_PERIOD)
    static void hasPeriodOfEachLength() {
        Subject x = of("abcab.ab", "a");
        int[] answers = {NO, NO, YES, NO, NO, YES, NO};
        for (int period = 1; period <= answers.length; period++) {
            x.due(answers[period - 1], "hasPeriod", period);
        }
    }

    @Sentence(promise = 29, says = HAS_PERIOD)
    static void hasPeriodLooksNoFarther() {
        of("a.b", "").due(YES, "hasPeriod", 1);
        of("a.b", "").due(NO, "hasPeriod", 2);
        of("ab.bcb", "").due(YES, "hasPeriod", 2);
        of("ab.bcb", "").due(NO, "hasPeriod", 4);
    }

    @Sentence(promise = 29, says = HAS_PERIOD)
    static void hasPeriodLooksAtTheFirstAndTheLastTwoSymbols() {
        of("ab" + "b".repeat(62), "").due(NO, "hasPeriod", 1);
        of("b".repeat(62) + "ba", "").due(NO, "hasPeriod", 1);
        of("b".repeat(64), "").due(YES, "hasPeriod", 1);
        of("ab" + "c".repeat(61) + "b", "").due(NO, "hasPeriod", 63);
        of("ab" + "c".repeat(61) + "a", "").due(YES, "hasPeriod", 63);
        of("ab" + "c".repeat(60) + "ab", "").due(YES, "hasPeriod", 62);
        of("ab" + "c".repeat(60) + "aa", "").due(NO, "hasPeriod", 62);
        of("ab" + "c".repeat(60) + "bb", "").due(NO, "hasPeriod", 62);
    }

    @Sentence(promise = 29, says = "- `period`: 1 or more")
    static void hasPeriodTakesOneAndTheGreatest() {
        Subject x = of("ab", "");
        x.due(NO, "hasPeriod", 1);
        x.due(YES, "hasPeriod", 2);
        x.due(YES, "hasPeriod", MOST);
        x.refused(ARGUMENT, "hasPeriod", 0);
    }

    @Sentence(promise = 29, says = "Returns true if they do.")
    static void hasPeriodWhereNoTwoSymbolsAreSoFarApart() {
        for (int period : new int[] {64, 65, 128, MOST - 64, MOST - 63, MOST - 1, MOST}) {
            of(FULL_TEXT, "").due(YES, "hasPeriod", period);
        }
        of("abc", "").due(YES, "hasPeriod", 3);
        of("abc", "").due(NO, "hasPeriod", 2);
    }

    @Sentence(promise = 29, says = "Returns true if they do.")
    static void hasPeriodOfTheEmptyTextAndOfOneSymbol() {
        for (int period : new int[] {1, 2, 64, MOST}) {
            of("", "ab").due(YES, "hasPeriod", period);
            of("a", "ab").due(YES, "hasPeriod", period);
        }
    }

    @Sentence(promise = 29, says = "Returns true if they do.")
    static void hasPeriodForgetsSymbolsThatWereCleared() {
        Subject x = of("abc", "");
        x.due(3, "clearText");
        x.due(YES, "hasPeriod", 1);
        x.due(1, "appendText", 1);
        x.due(YES, "hasPeriod", 1);
    }

    @Sentence(promise = 29, says = "Throws `IllegalArgumentException` if period is below 1")
    static void hasPeriodRefusesPeriodsBelowOne() {
        of("abcab.ab", "a").refusedEach(ARGUMENT, "hasPeriod", 0, -1, -2, LEAST + 1, LEAST);
        of("", "").refusedEach(ARGUMENT, "hasPeriod", 0, -1, LEAST);
        of(FULL_TEXT, "").refusedEach(ARGUMENT, "hasPeriod", 0, -1, -64, LEAST + 64, LEAST);
    }

    // ---- promise 30: leastPeriod

    @Sentence(promise = 30, says = "Returns the least period of the text.")
    static void leastPeriodOfSeveral() {
        of("abcabca", "").due(3, "leastPeriod");
        of("abcab.ab", "").due(3, "leastPeriod");
        of("a.b", "").due(1, "leastPeriod");
        of("abab", "").due(2, "leastPeriod");
    }

    @Sentence(promise = 30, says = "Returns the period, at most the length of the text; 1 for the empty text.")
    static void leastPeriodIsAtMostTheLength() {
        of("ab", "").due(2, "leastPeriod");
        of("abcd", "").due(4, "leastPeriod");
        of("abca", "").due(3, "leastPeriod");
        of("a".repeat(63) + "b", "").due(64, "leastPeriod");
        of("a" + "b".repeat(62) + "a", "").due(63, "leastPeriod");
    }

    @Sentence(promise = 30, says = "Returns the period, at most the length of the text; 1 for the empty text.")
    static void leastPeriodIsAtLeastOne() {
        of("", "").due(1, "leastPeriod");
        of("", "ab").due(1, "leastPeriod");
        of("a", "").due(1, "leastPeriod");
        of(".", "").due(1, "leastPeriod");
        of("a".repeat(64), "").due(1, "leastPeriod");
        of(".".repeat(64), "").due(1, "leastPeriod");
    }

    @Sentence(promise = 30, says = "Returns the period, at most the length of the text; 1 for the empty text.")
    static void leastPeriodIsOneAgainBehindClearText() {
        Subject x = of("abcd", "");
        x.due(4, "leastPeriod");
        x.due(4, "clearText");
        x.due(1, "leastPeriod");
    }
}
