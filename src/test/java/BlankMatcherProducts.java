// Promises 13 and 14: products.
public final class BlankMatcherProducts extends SentenceTests {
    private static final String PRODUCT =
        "Returns a coefficient of the product of two polynomials: that of the text, in which the"
        + " symbol i is the coefficient of x to the power of i, and that of the pattern turned round, in which the"
        + " symbol j is the coefficient of x to the power of the length of the pattern less 1 less j.";
    private static final String DIFFERENCE =
        "Returns the sum over all j of p * t * (p - t) * (p - t), where p is the symbol j of the"
        + " pattern and t the symbol with which it is compared at a place.";

    public static void main(String[] args) {
        run(BlankMatcherProducts.class);
    }

    // ---- promise 13: product

    @Sentence(promise = 13, says = PRODUCT)
    static void productTurnsThePatternRound() {
        // (1 + 2x + 3x^2) (5 + 4x)
        Subject x = of("abc", "de");
        x.due(5, "product", 0);
        x.due(14, "product", 1);
        x.due(23, "product", 2);
        x.due(12, "product", 3);
    }

    @Sentence(promise = 13, says = PRODUCT)
    static void productTakesBlanksAsZero() {
        // (2 + 0x + 3x^2) (5 + 0x + 1x^2 + 0x^3)
        Subject x = of("b.c", ".a.e");
        x.due(10, "product", 0);
        x.due(0, "product", 1);
        x.due(17, "product", 2);
        x.due(0, "product", 3);
        x.due(3, "product", 4);
        x.due(0, "product", 5);
    }

    @Sentence(promise = 13, says = PRODUCT)
    static void productOfAPatternThatIsLongerThanTheText() {
        // (2) (3 + 2x + x^2)
        Subject x = of("b", "abc");
        x.due(6, "product", 0);
        x.due(4, "product", 1);
        x.due(2, "product", 2);
        x.due(0, "product", 3);
    }

    @Sentence(promise = 13, says = "- `power`: 0 or more")
    static void productOfTheLeastAndTheGreatestPower() {
        Subject x = of("ab", "c");
        x.due(3, "product", 0);
        x.due(0, "product", MOST);
        x.refused(ARGUMENT, "product", -1);
    }

    @Sentence(promise = 13, says = "Returns the coefficient of x to that power, 0 where there is none.")
    static void productOfTheGreatestSymbols() {
        Subject x = of("z".repeat(64), "z".repeat(24));
        x.due(676, "product", 0);
        x.due(23 * 676, "product", 22);
        x.due(24 * 676, "product", 23);
        x.due(24 * 676, "product", 63);
        x.due(23 * 676, "product", 64);
        x.due(676, "product", 86);
    }

    @Sentence(promise = 13, says = "Returns the coefficient of x to that power, 0 where there is none.")
    static void productIsZeroBehindTheHighestPower() {
        Subject full = of("z".repeat(64), "z".repeat(24));
        for (int power : new int[] {87, 88, 128, 1 << 16, MOST - 128}) {
            full.due(0, "product", power);
        }
        of("z", "z").due(676, "product", 0);
        of("z", "z").due(0, "product", 1);
    }

    @Sentence(promise = 13, says = "Returns the coefficient of x to that power, 0 where there is none.")
    static void productIsZeroWhereASumWouldWrapRound() {
        Subject full = of("z".repeat(64), "z".repeat(24));
        for (int power = MOST - 90; power < MOST; power++) {
            full.due(0, "product", power);
        }
        full.due(0, "product", MOST);
    }

    @Sentence(promise = 13, says = "Returns the coefficient of x to that power, 0 where there is none.")
    static void productOfTheEmptyTextOrPatternIsZero() {
        for (int power : new int[] {0, 1, 23, 63, MOST}) {
            of("", "").due(0, "product", power);
            of("abc", "").due(0, "product", power);
            of(FULL_TEXT, "").due(0, "product", power);
            of("", "abc").due(0, "product", power);
            of("", FULL_PATTERN).due(0, "product", power);
        }
    }

    @Sentence(promise = 13, says = "Returns the coefficient of x to that power, 0 where there is none.")
    static void productForgetsSymbolsThatWereCleared() {
        Subject x = of("zz", "zz");
        x.due(2, "clearText");
        x.due(1, "appendText", 1);
        x.due(26, "product", 0);
        x.due(26, "product", 1);
        x.due(0, "product", 2);
        Subject y = of("zz", "zz");
        y.due(2, "clearPattern");
        y.due(1, "appendPattern", 1);
        y.due(26, "product", 0);
        y.due(26, "product", 1);
        y.due(0, "product", 2);
    }

    @Sentence(promise = 13, says = "Throws `IllegalArgumentException` if power is below 0")
    static void productRefusesPowersBelowZero() {
        of("abc", "ab").refusedEach(ARGUMENT, "product", -1, -2, LEAST + 1, LEAST);
        of("", "").refusedEach(ARGUMENT, "product", -1, LEAST);
        of(FULL_TEXT, FULL_PATTERN).refusedEach(ARGUMENT, "product", -1, -23, -24, LEAST + 23, LEAST);
    }

    // ---- promise 14: difference

    @Sentence(promise = 14, says = DIFFERENCE)
    static void differenceAddsAllSymbols() {
        // At 0: 2 1 (2-1)^2 and blanks; at 1: 2 2 0^2 and 1 4 (1-4)^2; at 2: a blank and 1 26 25^2.
        Subject x = of("ab.dz", "b.a");
        x.due(2, "difference", 0);
        x.due(36, "difference", 1);
        x.due(16250, "difference", 2);
    }

    @Sentence(promise = 14, says = DIFFERENCE)
    static void differenceOfEachTwoSymbols() {
        for (int p = 0; p <= 26; p++) {
            Subject x = of("a", "a");
            x.due(1, "setPattern", 0, p);
            int before = 1;
            for (int t = 0; t <= 26; t++) {
                x.due(before, "setText", 0, t);
                x.due(p * t * (p - t) * (p - t), "difference", 0);
                before = t;
            }
        }
    }

    @Sentence(promise = 14, says = "(It is 0 just if the pattern matches there.)")
    static void differenceIsZeroJustWhereThePatternMatches() {
        Subject x = of("abc.bcab.bcd", "a.c");
        int[] sums = {0, 2, 18, 0, 14, 18, 0, 8, 0, 14};
        int[] matches = {0, 3, 6, 8};
        for (int place = 0; place < sums.length; place++) {
            x.due(sums[place], "difference", place);
        }
        x.due(matches.length, "matches");
        for (int match = 0; match < matches.length; match++) {
            x.due(matches[match], "match", match);
        }
    }

    @Sentence(promise = 14, says = "- `place`: the place")
    static void differenceAtTheFirstAndTheLastPlace() {
        Subject x = of("z" + "a".repeat(62) + "c", "aa");
        x.due(26 * 25 * 25, "difference", 0);
        x.due(0, "difference", 1);
        x.due(3 * 2 * 2, "difference", 62);
        of("ab", "ab").due(0, "difference", 0);
        of("ab", "ba").due(4, "difference", 0);
    }

    @Sentence(promise = 14, says = "Returns the sum.")
    static void differenceOfTheEmptyPatternIsZero() {
        of("", "").due(0, "difference", 0);
        of("abc", "").due(0, "difference", 0);
        of("abc", "").due(0, "difference", 3);
        of(FULL_TEXT, "").due(0, "difference", 64);
    }

    @Sentence(promise = 14, says = "Returns the sum.")
    static void differenceIsAtMostThatOfAllSymbols() {
        of("z".repeat(64), "i".repeat(24)).due(24 * 9 * 26 * 17 * 17, "difference", 40);
        of("i".repeat(64), "z".repeat(24)).due(24 * 9 * 26 * 17 * 17, "difference", 0);
        of(".".repeat(64), "z".repeat(24)).due(0, "difference", 0);
        of("z".repeat(64), ".".repeat(24)).due(0, "difference", 40);
    }

    @Sentence(promise = 14, says = "Throws `IndexOutOfBoundsException` if there is no such place")
    static void differenceRefusesPlacesThatAreNotThere() {
        of("abcde", "abc").refusedEach(INDEX, "difference", -1, 3, 4, 5, MOST, MOST - 2, LEAST);
        of("abc", "abc").refusedEach(INDEX, "difference", -1, 1);
        of("abc", "").refusedEach(INDEX, "difference", -1, 4, MOST, LEAST);
        of("", "").refusedEach(INDEX, "difference", -1, 1);
        of(FULL_TEXT, FULL_PATTERN).refusedEach(INDEX, "difference", -1, 41, 64, MOST, LEAST);
        of("ab", "abc").refusedEach(INDEX, "difference", -1, 0, 1, MOST, LEAST);
    }
}
