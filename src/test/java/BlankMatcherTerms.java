// What stands ahead of the promises: how many calls an object answers, the terms and the constants.
public final class BlankMatcherTerms extends SentenceTests {
    private static final String CALLS =
        "An object is used for at most 512 calls after it has been made; what later calls answer is free.";
    private static final String AGREE =
        "Two symbols agree if they are equal, or if one of them is the blank; otherwise they are a mismatch.";
    private static final String SYMBOLS = "A symbol is a number from 0 to 26: 0 is the blank, 1 to 26 are letters.";
    private static final String LIMITS = "The text has at most 64 symbols, the pattern at most 24; both are empty at first.";
    private static final String PLACES = "places are 0 to the length of the text less the length of the pattern.";
    private static final String EMPTY_PATTERN = "the empty pattern has the places 0 to the length of the text.";

    private static final String[] COUNTS = {"places", "matches", "apart", "sumMatches", "orderMatches"};
    private static final String[] AT_A_PLACE = {"difference", "mismatches"};
    private static final String[] AT_A_NUMBER = {"match", "ranked", "sumMatch", "orderMatch"};

    public static void main(String[] args) {
        run(BlankMatcherTerms.class);
    }

    // ---- what it is

    @Sentence(says = CALLS)
    static void comparingIsAnsweredUpToTheCall512() {
        Subject x = of("a".repeat(64), "a".repeat(23) + "b");
        while (x.callsLeft() >= 8) {
            x.due(0, "matches");
            x.due(40, "ranked", 40);
            x.due(1, "bestLetter", 23);
            x.due(0, "orderMatches");
            x.due(1, "leastPeriod");
            x.due(41, "within", 1);
        }
        while (x.callsLeft() > 1) {
            x.due(64, "textLength");
        }
        x.due(23, "nextMismatch", 40, 0);
    }

    @Sentence(says = CALLS)
    static void changingIsAnsweredUpToTheCall512() {
        Subject x = of("", "");
        while (x.callsLeft() > 80) {
            x.due(1, "appendText", 1);
            for (int length = 1; length < 64; length *= 2) {
                x.due(2 * length, "repeatText", 0, length);
            }
            x.due(0, "takePattern", 40, 24);
            x.due(64, "clearText");
            x.due(24, "clearPattern");
        }
        for (int length = 1; length <= 64; length++) {
            x.due(length, "appendText", 26);
        }
        while (x.callsLeft() > 1) {
            x.due(26, "setText", 63, 26);
        }
        x.due(26, "setText", 63, 0);
    }

    @Sentence(says = CALLS)
    static void refusedCallsCountAndTheCall512IsAnswered() {
        BlankMatcher x = new BlankMatcher();
        int refused = 0;
        for (int call = 1; call <= 511; call++) {
            try {
                x.appendText(27);
            } catch (IllegalArgumentException e) {
                refused++;
            }
        }
        int length = x.appendText(26);
        if (refused != 511 || length != 1) {
            throw new AssertionError(refused + " calls were refused, and the text is " + length + " long");
        }
    }

    // ---- the constants

    @Sentence(says = "`NONE = -1`: There is none.")
    static void noneIsMinusOne() {
        if (BlankMatcher.NONE != -1) {
            throw new AssertionError("NONE is " + BlankMatcher.NONE);
        }
    }

    @Sentence(says = "`BLANK = 0`: The symbol that agrees with all others.")
    static void blankIsZeroAndAgreesWithAllOthers() {
        if (BlankMatcher.BLANK != 0) {
            throw new AssertionError("BLANK is " + BlankMatcher.BLANK);
        }
        of(ONCE.substring(3), ".".repeat(24)).due(1, "matches");
        of(".".repeat(64), FULL_PATTERN).due(41, "matches");
    }

    // ---- text, pattern and symbols

    @Sentence(says = "which are changed by small calls; all other calls compare them")
    static void comparingChangesNothing() {
        for (String[] pair : new String[][] {{"", ""}, {"ab.cab", "a."}, {"ab", "abc"}, {FULL_TEXT, FULL_PATTERN}}) {
            Subject x = of(pair[0], pair[1]);
            for (String name : new String[] {"textLength", "patternLength", "leastPeriod"}) {
                x.changesNothing(name);
            }
            for (String name : COUNTS) {
                x.changesNothing(name);
            }
            for (String name : new String[] {"product", "within", "hasPeriod", "bestLetter"}) {
                x.changesNothing(name, 1);
            }
            for (String name : AT_A_PLACE) {
                x.changesNothing(name, 0);
            }
            for (String name : AT_A_NUMBER) {
                x.changesNothing(name, 0);
            }
            x.changesNothing("mismatchesOf", 0, 1);
            x.changesNothing("nextMismatch", 0, 0);
            x.changesNothing("agreement", 0, 0);
        }
    }

    @Sentence(says = SYMBOLS)
    static void symbolsAreZeroToTwentySix() {
        Subject x = of("aa", "aa");
        for (int symbol : new int[] {0, 26}) {
            x.due(symbol == 0 ? 3 : 4, "appendText", symbol);
            x.due(symbol == 0 ? 1 : 0, "setText", 0, symbol);
            x.due(symbol == 0 ? 3 : 4, "appendPattern", symbol);
            x.due(symbol == 0 ? 1 : 0, "setPattern", 0, symbol);
        }
        for (int symbol : new int[] {-1, 27}) {
            x.refused(ARGUMENT, "appendText", symbol);
            x.refused(ARGUMENT, "setText", 0, symbol);
            x.refused(ARGUMENT, "appendPattern", symbol);
            x.refused(ARGUMENT, "setPattern", 0, symbol);
        }
        x.holds("za.z", "za.z");
    }

    @Sentence(says = SYMBOLS)
    static void lettersAreOneToTwentySix() {
        Subject x = of("ba", "az");
        x.due(1, "mismatchesOf", 0, 1);
        x.due(1, "mismatchesOf", 0, 26);
        x.refused(ARGUMENT, "mismatchesOf", 0, 0);
        x.refused(ARGUMENT, "mismatchesOf", 0, 27);
    }

    @Sentence(says = AGREE)
    static void agreementOfEachTwoSymbols() {
        for (int symbol = 0; symbol <= 26; symbol++) {
            Subject x = of("a", "a");
            x.due(1, "setPattern", 0, symbol);
            int before = 1;
            for (int other = 0; other <= 26; other++) {
                boolean agree = symbol == other || symbol == 0 || other == 0;
                x.due(before, "setText", 0, other);
                x.due(agree ? 0 : 1, "mismatches", 0);
                x.due(agree ? 1 : 0, "matches");
                x.due(agree ? 1 : 0, "agreement", 0, 0);
                x.due(agree ? -1 : 0, "nextMismatch", 0, 0);
                before = other;
            }
        }
    }

    @Sentence(says = AGREE)
    static void agreementOfEachTwoSymbolsOfTheText() {
        for (int symbol = 0; symbol <= 26; symbol++) {
            Subject x = of("aa", "");
            x.due(1, "setText", 0, symbol);
            int before = 1;
            for (int other = 0; other <= 26; other++) {
                boolean agree = symbol == other || symbol == 0 || other == 0;
                x.due(before, "setText", 1, other);
                x.due(agree ? 1 : 0, "hasPeriod", 1);
                x.due(agree ? 1 : 2, "leastPeriod");
                before = other;
            }
        }
    }

    @Sentence(says = LIMITS)
    static void textIsEmptyAtFirstAndHasAtMostSixtyFourSymbols() {
        Subject x = of("", "");
        x.due(0, "textLength");
        for (int length = 1; length <= 64; length++) {
            x.due(length, "appendText", 3);
        }
        x.refused(STATE, "appendText", 3);
        x.refused(STATE, "repeatText", 0, 1);
        x.due(64, "textLength");
    }

    @Sentence(says = LIMITS)
    static void patternIsEmptyAtFirstAndHasAtMostTwentyFourSymbols() {
        Subject x = of("a".repeat(25), "");
        x.due(0, "patternLength");
        for (int length = 1; length <= 24; length++) {
            x.due(length, "appendPattern", 3);
        }
        x.refused(STATE, "appendPattern", 3);
        x.refused(ARGUMENT, "takePattern", 0, 25);
        x.due(24, "patternLength");
    }

    @Sentence(says = "Their symbols are numbered from 0.")
    static void symbolsAreNumberedFromZero() {
        Subject x = of("abc", "de");
        x.due(1, "setText", 0, 1);
        x.due(3, "setText", 2, 3);
        x.refused(INDEX, "setText", 3, 1);
        x.due(4, "setPattern", 0, 4);
        x.due(5, "setPattern", 1, 5);
        x.refused(INDEX, "setPattern", 2, 1);
        x.due(0, "takePattern", 0, 1);
        x.holds("abc", "a");
    }

    // ---- places and windows

    @Sentence(says = PLACES)
    static void placesOfEachTwoLengths() {
        for (int textLength = 0; textLength <= 64; textLength++) {
            for (int patternLength = 0; patternLength <= Math.min(24, textLength); patternLength++) {
                Subject x = of("a".repeat(textLength), "b".repeat(patternLength));
                int last = textLength - patternLength;
                x.due(last + 1, "places");
                x.due(patternLength, "mismatches", last);
                x.due(last, "ranked", last);
            }
        }
    }

    @Sentence(says = PLACES)
    static void noPlaceBeforeTheFirstOrBehindTheLast() {
        for (String[] pair : new String[][] {{"abcde", "aa"}, {"abc", "abc"}, {FULL_TEXT, FULL_PATTERN}}) {
            int behind = pair[0].length() - pair[1].length() + 1;
            for (int place : new int[] {-1, behind, behind + 1, MOST, LEAST}) {
                hasNoPlace(of(pair[0], pair[1]), place);
            }
        }
    }

    private static void hasNoPlace(Subject x, int place) {
        for (String name : AT_A_PLACE) {
            x.refused(INDEX, name, place);
        }
        for (String name : AT_A_NUMBER) {
            x.refused(INDEX, name, place);
        }
        x.refused(INDEX, "mismatchesOf", place, 1);
        x.refused(INDEX, "nextMismatch", place, 0);
    }

    @Sentence(says = "If the pattern is longer than the text, there are no places;")
    static void noPlacesForALongerPattern() {
        String[][] pairs = {{"", "."}, {"a", "ab"}, {"", FULL_PATTERN}, {FULL_PATTERN.substring(1), FULL_PATTERN}};
        for (String[] pair : pairs) {
            Subject x = of(pair[0], pair[1]);
            for (String name : COUNTS) {
                x.due(0, name);
            }
            x.due(0, "within", 0);
            x.due(0, "within", MOST);
            x.due(1, "bestLetter", 0);
            for (int place : new int[] {-1, 0, 1}) {
                hasNoPlace(x, place);
            }
        }
    }

    @Sentence(says = EMPTY_PATTERN)
    static void placesOfTheEmptyPattern() {
        for (int length = 0; length <= 64; length++) {
            Subject x = of("a".repeat(length), "");
            for (String name : COUNTS) {
                x.due(length + 1, name);
            }
            x.due(length + 1, "within", 0);
            for (String name : AT_A_PLACE) {
                x.due(0, name, 0);
                x.due(0, name, length);
            }
            for (String name : AT_A_NUMBER) {
                x.due(0, name, 0);
                x.due(length, name, length);
            }
            x.due(0, "mismatchesOf", length, 1);
            x.due(-1, "nextMismatch", length, 0);
            x.due(0, "agreement", length, 0);
        }
    }

    @Sentence(says = EMPTY_PATTERN)
    static void noOtherPlacesOfTheEmptyPattern() {
        for (String text : new String[] {"", "abc", FULL_TEXT}) {
            for (int place : new int[] {-1, text.length() + 1, MOST, LEAST}) {
                hasNoPlace(of(text, ""), place);
            }
        }
    }

    @Sentence(says = "The window of a place is the part of the text from that place on, as long as the pattern.")
    static void windowIsAsLongAsThePattern() {
        // One symbol more or less on either side would bring another sum and another order.
        Subject x = of("zbacz", "c.c");
        x.due(1, "sumMatches");
        x.due(1, "sumMatch", 0);
        Subject y = of("zbacz", "bac");
        y.due(1, "orderMatches");
        y.due(1, "orderMatch", 0);
    }

    @Sentence(says = "Laid at a place p, the symbol j of the pattern is compared with the symbol p + j of the text.")
    static void symbolJIsComparedWithTheSymbolPPlusJ() {
        Subject x = of("a".repeat(40) + FULL_PATTERN, "a");
        x.due(0, "takePattern", 0, 0);
        x.due(1, "takePattern", 40, 24);
        x.due(0, "mismatches", 40);
        for (int j = 0; j < 23; j++) {
            x.due(26 - j, "setText", 40 + j, 3);
            x.due(j, "nextMismatch", 40, 0);
            x.due(1, "mismatchesOf", 40, 26 - j);
            x.due(3, "setText", 40 + j, 26 - j);
        }
    }

    @Sentence(says = "The pattern matches at a place if all these symbols agree.")
    static void oneSymbolThatDisagreesSpoilsAMatch() {
        for (int j = 0; j < 24; j++) {
            Subject x = of("a".repeat(24), "a".repeat(24));
            x.due(1, "matches");
            x.due(1, "setPattern", j, 2);
            x.due(0, "matches");
            x.due(2, "setPattern", j, 0);
            x.due(1, "matches");
        }
    }

    // ---- exceptions

    @Sentence(says = "IllegalArgumentException: a symbol or another number is out of its range.")
    static void numbersOutOfTheirRange() {
        Subject x = of("abcd", "ab");
        x.refusedEach(ARGUMENT, "appendText", -1, 27);
        x.refusedEach(ARGUMENT, "appendPattern", -1, 27);
        x.refusedEach(ARGUMENT, "product", -1, LEAST);
        x.refusedEach(ARGUMENT, "within", -1, LEAST);
        x.refusedEach(ARGUMENT, "hasPeriod", 0, -1, LEAST);
        x.refused(ARGUMENT, "setText", 0, 27);
        x.refused(ARGUMENT, "setPattern", 0, 27);
        x.refused(ARGUMENT, "repeatText", 0, 0);
        x.refused(ARGUMENT, "takePattern", 0, 25);
        x.refused(ARGUMENT, "mismatchesOf", 0, 27);
        x.refused(ARGUMENT, "nextMismatch", 0, -1);
        x.refused(ARGUMENT, "agreement", 5, 0);
        x.refused(ARGUMENT, "agreement", 0, 3);
    }

    @Sentence(says = "IndexOutOfBoundsException: there is no such symbol, place or match.")
    static void symbolsPlacesAndMatchesThatAreNotThere() {
        Subject x = of("abcd", "ab");
        x.refused(INDEX, "repeatText", 4, 1);
        x.refused(INDEX, "setText", 4, 1);
        x.refused(INDEX, "setPattern", 2, 1);
        x.refused(INDEX, "takePattern", 4, 1);
        x.refused(INDEX, "bestLetter", 2);
        hasNoPlace(x, 3);
    }

    @Sentence(says = "IllegalStateException: as the method says.")
    static void fullTextAndFullPattern() {
        Subject x = of(FULL_TEXT, FULL_PATTERN);
        x.refused(STATE, "appendText", 1);
        x.refused(STATE, "repeatText", 0, 1);
        x.refused(STATE, "appendPattern", 1);
    }

    @Sentence(says = CHANGES_NOTHING)
    static void refusedComparisonsChangeNothing() {
        for (String[] pair : new String[][] {{"", ""}, {"ab.cab", "b."}, {"ab", "abc"}, {FULL_TEXT, FULL_PATTERN}}) {
            Subject x = of(pair[0], pair[1]);
            hasNoPlace(x, -1);
            hasNoPlace(x, 65);
            x.refused(ARGUMENT, "product", -1);
            x.refused(ARGUMENT, "within", -1);
            x.refused(ARGUMENT, "hasPeriod", 0);
            x.refused(ARGUMENT, "mismatchesOf", 0, 0);
            x.refused(ARGUMENT, "nextMismatch", 0, -1);
            x.refused(ARGUMENT, "agreement", 65, 0);
            x.refused(ARGUMENT, "agreement", 0, 25);
            x.refused(INDEX, "bestLetter", 24);
            x.holds(pair[0], pair[1]);
        }
    }

    @Sentence(says = CHANGES_NOTHING)
    static void refusedChangesChangeNothing() {
        for (String[] pair : new String[][] {{"", ""}, {"ab.cab", "b."}, {"ab", "abc"}, {FULL_TEXT, FULL_PATTERN}}) {
            Subject x = of(pair[0], pair[1]);
            x.refused(ARGUMENT, "appendText", 27);
            x.refused(ARGUMENT, "repeatText", 0, 0);
            x.refused(INDEX, "repeatText", 0, 65);
            x.refused(INDEX, "setText", 64, 1);
            x.refused(INDEX, "setText", -1, 1);
            x.refused(ARGUMENT, "appendPattern", 27);
            x.refused(INDEX, "setPattern", 24, 1);
            x.refused(INDEX, "setPattern", -1, 1);
            x.refused(ARGUMENT, "takePattern", 0, 25);
            x.refused(INDEX, "takePattern", 65, 0);
            x.holds(pair[0], pair[1]);
        }
    }
}
