// For each promise of the document: ordinary inputs, the edges that it names, and wrong inputs.
public final class BlankMatcherPromises {
    private static final Class<? extends RuntimeException> ARGUMENT = IllegalArgumentException.class;
    private static final Class<? extends RuntimeException> INDEX = IndexOutOfBoundsException.class;
    private static final Class<? extends RuntimeException> STATE = IllegalStateException.class;
    private static final int MOST = Integer.MAX_VALUE;
    private static final int LEAST = Integer.MIN_VALUE;

    private static int wrong = 0;
    private static String promise = "";

    private interface Call {
        long run();
    }

    public static void main(String[] args) {
        constants();
        newObject();
        appendText();
        repeatText();
        setText();
        appendPattern();
        setPattern();
        takePattern();
        clearText();
        clearPattern();
        lengthsAndPlaces();
        product();
        productOfShortAndEmpty();
        difference();
        matches();
        match();
        apart();
        mismatches();
        mismatchesOf();
        nextMismatch();
        agreement();
        within();
        ranked();
        bestLetter();
        sumMatches();
        sumMatch();
        orderMatches();
        orderMatch();
        hasPeriod();
        leastPeriod();
        throwingChangesNothing();
        System.out.println(wrong == 0 ? "all promises hold" : wrong + " wrong answers");
        System.exit(wrong == 0 ? 0 : 1);
    }

    // ---- how the checks are made

    private static void due(String what, long want, Call call) {
        try {
            long got = call.run();
            if (got != want) {
                report(what + " answered " + got + ", due is " + want);
            }
        } catch (RuntimeException e) {
            report(what + " threw " + e.getClass().getName() + ", due is " + want);
        }
    }

    // Just this class: a class below it would be one that the machine threw.
    private static void refused(String what, Class<? extends RuntimeException> want, Call call) {
        try {
            report(what + " answered " + call.run() + ", due is " + want.getSimpleName());
        } catch (RuntimeException e) {
            if (e.getClass() != want) {
                report(what + " threw " + e.getClass().getName() + ", due is " + want.getSimpleName());
            }
        }
    }

    private static void report(String text) {
        wrong++;
        System.out.println(promise + ": " + text);
    }

    /** Letters by their signs, with a point for the blank. */
    private static BlankMatcher of(String text, String pattern) {
        BlankMatcher x = new BlankMatcher();
        for (char sign : text.toCharArray()) {
            x.appendText(symbol(sign));
        }
        for (char sign : pattern.toCharArray()) {
            x.appendPattern(symbol(sign));
        }
        return x;
    }

    private static int symbol(char sign) {
        return sign == '.' ? 0 : sign - 'a' + 1;
    }

    private static String textOf(BlankMatcher x) {
        StringBuilder signs = new StringBuilder();
        for (int i = 0; i < x.textLength(); i++) {
            int symbol = x.setText(i, 0);
            x.setText(i, symbol);
            signs.append(symbol == 0 ? '.' : (char) ('a' + symbol - 1));
        }
        return signs.toString();
    }

    private static String patternOf(BlankMatcher x) {
        StringBuilder signs = new StringBuilder();
        for (int j = 0; j < x.patternLength(); j++) {
            int symbol = x.setPattern(j, 0);
            x.setPattern(j, symbol);
            signs.append(symbol == 0 ? '.' : (char) ('a' + symbol - 1));
        }
        return signs.toString();
    }

    private static void holds(BlankMatcher x, String text, String pattern) {
        String gotText = textOf(x);
        String gotPattern = patternOf(x);
        if (!gotText.equals(text) || !gotPattern.equals(pattern)) {
            report("holds " + gotText + " and " + gotPattern + ", due are " + text + " and " + pattern);
        }
    }

    // ---- the text and the pattern

    private static void constants() {
        promise = "the constants";
        due("NONE", -1, () -> BlankMatcher.NONE);
        due("BLANK", 0, () -> BlankMatcher.BLANK);
    }

    private static void newObject() {
        promise = "1 a new object";
        BlankMatcher x = new BlankMatcher();
        due("textLength", 0, x::textLength);
        due("patternLength", 0, x::patternLength);
        due("places", 1, x::places);
        due("matches", 1, x::matches);
        due("match(0)", 0, () -> x.match(0));
        due("leastPeriod", 1, x::leastPeriod);
        x.appendText(3);
        x.appendPattern(4);
        BlankMatcher y = new BlankMatcher();
        due("textLength of another", 0, y::textLength);
        due("patternLength of another", 0, y::patternLength);
    }

    private static void appendText() {
        promise = "2 appendText";
        BlankMatcher x = new BlankMatcher();
        due("26", 1, () -> x.appendText(26));
        due("0", 2, () -> x.appendText(0));
        due("1", 3, () -> x.appendText(1));
        for (int wrongSymbol : new int[] {-1, 27, MOST, LEAST}) {
            refused("symbol " + wrongSymbol, ARGUMENT, () -> x.appendText(wrongSymbol));
        }
        holds(x, "z.a", "");
        for (int length = 4; length <= 64; length++) {
            due("up to the limit", length, () -> x.appendText(2));
        }
        refused("to a full text", STATE, () -> x.appendText(2));
        refused("a wrong symbol to a full text", ARGUMENT, () -> x.appendText(27));
        holds(x, "z.a" + "b".repeat(61), "");
    }

    private static void repeatText() {
        promise = "3 repeatText";
        BlankMatcher x = of("abc.", "q");
        due("the middle", 6, () -> x.repeatText(1, 2));
        holds(x, "abc.bc", "q");
        due("the end", 7, () -> x.repeatText(5, 1));
        due("all", 14, () -> x.repeatText(0, 7));
        holds(x, "abc.bccabc.bcc", "q");
        for (int many : new int[] {0, -1, LEAST}) {
            refused("many " + many, ARGUMENT, () -> x.repeatText(0, many));
            refused("many " + many + " and a wrong from", ARGUMENT, () -> x.repeatText(-1, many));
        }
        int[][] parts = {{-1, 1}, {14, 1}, {0, 15}, {13, 2}, {1, MOST}, {MOST, 1}, {MOST, MOST}, {LEAST, 1}, {LEAST, MOST}};
        for (int[] part : parts) {
            refused(part[0] + ", " + part[1], INDEX, () -> x.repeatText(part[0], part[1]));
        }
        refused("of the empty text", INDEX, () -> of("", "").repeatText(0, 1));
        holds(x, "abc.bccabc.bcc", "q");
        repeatTextToTheLimit();
    }

    private static void repeatTextToTheLimit() {
        String half = "abcdefghijklmnopqrstuvwxyz.abcdef";
        BlankMatcher x = of(half, "");
        refused("to 66", STATE, () -> x.repeatText(0, 33));
        refused("to 65", STATE, () -> x.repeatText(1, 32));
        refused("no such part, and too long", INDEX, () -> x.repeatText(2, 32));
        holds(x, half, "");
        due("to 64", 64, () -> x.repeatText(2, 31));
        holds(x, half + half.substring(2), "");
        refused("of a full text", STATE, () -> x.repeatText(63, 1));
        refused("many 0 of a full text", ARGUMENT, () -> x.repeatText(0, 0));
        refused("no such part of a full text", INDEX, () -> x.repeatText(64, 1));
    }

    private static void setText() {
        promise = "4 setText";
        BlankMatcher x = of("abc", "ab");
        due("the first", 1, () -> x.setText(0, 26));
        due("the last", 3, () -> x.setText(2, 0));
        due("the last again", 0, () -> x.setText(2, 5));
        holds(x, "zbe", "ab");
        for (int index : new int[] {-1, 3, 63, 64, MOST, LEAST}) {
            refused("index " + index, INDEX, () -> x.setText(index, 1));
            refused("index " + index + " and a wrong symbol", INDEX, () -> x.setText(index, 27));
        }
        for (int wrongSymbol : new int[] {-1, 27, MOST, LEAST}) {
            refused("symbol " + wrongSymbol, ARGUMENT, () -> x.setText(1, wrongSymbol));
        }
        refused("in the empty text", INDEX, () -> of("", "a").setText(0, 1));
        holds(x, "zbe", "ab");
    }

    private static void appendPattern() {
        promise = "5 appendPattern";
        BlankMatcher x = new BlankMatcher();
        due("26", 1, () -> x.appendPattern(26));
        due("0", 2, () -> x.appendPattern(0));
        due("1", 3, () -> x.appendPattern(1));
        for (int wrongSymbol : new int[] {-1, 27, MOST, LEAST}) {
            refused("symbol " + wrongSymbol, ARGUMENT, () -> x.appendPattern(wrongSymbol));
        }
        holds(x, "", "z.a");
        for (int length = 4; length <= 24; length++) {
            due("up to the limit", length, () -> x.appendPattern(2));
        }
        refused("to a full pattern", STATE, () -> x.appendPattern(2));
        refused("a wrong symbol to a full pattern", ARGUMENT, () -> x.appendPattern(-1));
        holds(x, "", "z.a" + "b".repeat(21));
    }

    private static void setPattern() {
        promise = "6 setPattern";
        BlankMatcher x = of("ab", "abc");
        due("the first", 1, () -> x.setPattern(0, 26));
        due("the last", 3, () -> x.setPattern(2, 0));
        due("the last again", 0, () -> x.setPattern(2, 5));
        holds(x, "ab", "zbe");
        for (int index : new int[] {-1, 3, 23, 24, MOST, LEAST}) {
            refused("index " + index, INDEX, () -> x.setPattern(index, 1));
            refused("index " + index + " and a wrong symbol", INDEX, () -> x.setPattern(index, -1));
        }
        for (int wrongSymbol : new int[] {-1, 27, MOST, LEAST}) {
            refused("symbol " + wrongSymbol, ARGUMENT, () -> x.setPattern(1, wrongSymbol));
        }
        refused("in the empty pattern", INDEX, () -> of("a", "").setPattern(0, 1));
        holds(x, "ab", "zbe");
    }

    private static void takePattern() {
        promise = "7 takePattern";
        BlankMatcher x = of("ab..c.d", "xyzxyzxyz");
        due("the middle", 2, () -> x.takePattern(1, 4));
        holds(x, "ab..c.d", "b..c");
        due("all", 3, () -> x.takePattern(0, 7));
        holds(x, "ab..c.d", "ab..c.d");
        due("none at the end", 0, () -> x.takePattern(7, 0));
        holds(x, "ab..c.d", "");
        due("the last", 0, () -> x.takePattern(6, 1));
        for (int many : new int[] {-1, 25, MOST, LEAST}) {
            refused("many " + many, ARGUMENT, () -> x.takePattern(0, many));
            refused("many " + many + " and a wrong from", ARGUMENT, () -> x.takePattern(-1, many));
        }
        int[][] parts = {{-1, 0}, {-1, 1}, {8, 0}, {7, 1}, {0, 8}, {MOST, 0}, {MOST, 24}, {LEAST, 1}};
        for (int[] part : parts) {
            refused(part[0] + ", " + part[1], INDEX, () -> x.takePattern(part[0], part[1]));
        }
        holds(x, "ab..c.d", "d");
        x.setText(6, 5);
        holds(x, "ab..c.e", "d");
        BlankMatcher longest = of(".".repeat(30), "");
        due("24", 24, () -> longest.takePattern(6, 24));
        due("patternLength", 24, longest::patternLength);
        due("none of the empty text", 0, () -> of("", "a").takePattern(0, 0));
    }

    private static void clearText() {
        promise = "8 clearText";
        BlankMatcher x = of("abcab", "ab");
        due("clearText", 5, x::clearText);
        due("clearText again", 0, x::clearText);
        holds(x, "", "ab");
        x.appendText(3);
        holds(x, "c", "ab");
    }

    private static void clearPattern() {
        promise = "9 clearPattern";
        BlankMatcher x = of("abcab", "ab");
        due("clearPattern", 2, x::clearPattern);
        due("clearPattern again", 0, x::clearPattern);
        holds(x, "abcab", "");
        x.appendPattern(3);
        holds(x, "abcab", "c");
    }

    private static void lengthsAndPlaces() {
        promise = "10 textLength, 11 patternLength, 12 places";
        BlankMatcher x = of("abc", "abcd");
        due("textLength", 3, x::textLength);
        due("patternLength", 4, x::patternLength);
        due("places of a longer pattern", 0, x::places);
        x.appendText(1);
        due("places of a pattern as long", 1, x::places);
        x.appendText(1);
        due("places of a shorter pattern", 2, x::places);
        x.clearPattern();
        due("places of the empty pattern", 6, x::places);
        x.clearText();
        due("places in the empty text", 1, x::places);
        due("places of the full text", 65, () -> of("a".repeat(64), "").places());
        due("textLength of the full text", 64, () -> of("a".repeat(64), "").textLength());
        due("places of a far longer pattern", 0, () -> of("", "a".repeat(24)).places());
    }

    // ---- products

    private static void product() {
        promise = "13 product";
        // (1 + 2x + 3x^2) (5 + 4x), the pattern being d e.
        BlankMatcher x = of("abc", "de");
        long[] coefficients = {5, 14, 23, 12, 0, 0};
        for (int power = 0; power < coefficients.length; power++) {
            int at = power;
            due("power " + power, coefficients[power], () -> x.product(at));
        }
        due("the greatest power", 0, () -> x.product(MOST));
        refused("power -1", ARGUMENT, () -> x.product(-1));
        refused("the least power", ARGUMENT, () -> x.product(LEAST));
    }

    private static void productOfShortAndEmpty() {
        BlankMatcher blanks = of("b.c", ".a.e");
        // (2 + 3x^2) (5 + x^2)
        due("with blanks, power 0", 10, () -> blanks.product(0));
        due("with blanks, power 1", 0, () -> blanks.product(1));
        due("with blanks, power 2", 17, () -> blanks.product(2));
        due("with blanks, power 4", 3, () -> blanks.product(4));
        due("with blanks, power 5", 0, () -> blanks.product(5));
        due("of the empty pattern", 0, () -> of("abc", "").product(0));
        due("of the empty text", 0, () -> of("", "abc").product(0));
        due("of both empty", 0, () -> of("", "").product(0));
        BlankMatcher full = of("z".repeat(64), "z".repeat(24));
        due("of the greatest symbols", 24 * 676, () -> full.product(40));
        due("of the greatest symbols at the end", 676, () -> full.product(86));
        due("behind the end", 0, () -> full.product(87));
        refused("power -1 of both empty", ARGUMENT, () -> of("", "").product(-1));
    }

    private static void difference() {
        promise = "14 difference";
        BlankMatcher x = of("ab.dz", "b.a");
        // At 0: 2 1 (2-1)^2 and blanks; at 1: 1 4 (1-4)^2; at 2: 1 26 25^2.
        due("at 0", 2, () -> x.difference(0));
        due("at 1", 36, () -> x.difference(1));
        due("at 2", 16250, () -> x.difference(2));
        due("of a match", 0, () -> of("abc", "a.c").difference(0));
        due("of the empty pattern", 0, () -> of("abc", "").difference(3));
        due("the greatest", 24L * 9 * 26 * 17 * 17, () -> of("z".repeat(64), "i".repeat(24)).difference(40));
        refusedPlaces("place", x, 3, place -> x.difference(place));
        refused("of a longer pattern", INDEX, () -> of("a", "ab").difference(0));
    }

    private interface AtPlace {
        long run(int place);
    }

    private static void refusedPlaces(String what, BlankMatcher x, int places, AtPlace call) {
        for (int place : new int[] {-1, places, places + 1, MOST, LEAST}) {
            refused(what + " " + place, INDEX, () -> call.run(place));
        }
    }

    // ---- matches

    private static void matches() {
        promise = "15 matches";
        due("letters", 3, () -> of("abcabxab", "ab").matches());
        due("a blank in the pattern", 2, () -> of("abcaxcaxd", "a.c").matches());
        due("a blank in the text", 2, () -> of("a.cabd", "ab").matches());
        due("blanks alone", 4, () -> of("abcde", "..").matches());
        due("none", 0, () -> of("abc", "d").matches());
        due("a longer pattern", 0, () -> of("a", "..").matches());
        due("the empty pattern", 4, () -> of("abc", "").matches());
        due("overlapping", 3, () -> of("aaaa", "aa").matches());
        due("a blank on each side, not passed on", 0, () -> of("ab", "b.").matches());
    }

    private static void match() {
        promise = "16 match";
        BlankMatcher x = of("abca.xab", "ab");
        due("0", 0, () -> x.match(0));
        due("1", 3, () -> x.match(1));
        due("2", 6, () -> x.match(2));
        refusedPlaces("match", x, 3, match -> x.match(match));
        due("of the empty pattern", 2, () -> of("ab", "").match(2));
        refused("where there is none", INDEX, () -> of("ab", "c").match(0));
        refused("of a longer pattern", INDEX, () -> of("ab", "abc").match(0));
    }

    private static void apart() {
        promise = "17 apart";
        due("overlapping", 2, () -> of("aaaaa", "aa").apart());
        due("side by side", 3, () -> of("ababab", "ab").apart());
        due("one left out", 2, () -> of("aaabaa", "aa").apart());
        due("the one behind an overlap", 2, () -> of("abababa", "aba").apart());
        due("none", 0, () -> of("aaa", "b").apart());
        due("the empty pattern", 4, () -> of("abc", "").apart());
        due("both empty", 1, () -> of("", "").apart());
        due("a longer pattern", 0, () -> of("a", "aa").apart());
        due("one symbol", 3, () -> of("aaa", "a").apart());
        due("the longest pattern", 2, () -> of("a".repeat(64), "a".repeat(24)).apart());
    }

    // ---- mismatches

    private static void mismatches() {
        promise = "18 mismatches";
        BlankMatcher x = of("abc.bd", "abd");
        due("at 0", 1, () -> x.mismatches(0));
        due("at 1", 2, () -> x.mismatches(1));
        due("at 2", 2, () -> x.mismatches(2));
        due("at 3", 0, () -> x.mismatches(3));
        due("of the empty pattern", 0, () -> of("abc", "").mismatches(3));
        due("all of them", 24, () -> of("a".repeat(64), "b".repeat(24)).mismatches(40));
        refusedPlaces("place", x, 4, place -> x.mismatches(place));
        refused("of a longer pattern", INDEX, () -> of("a", "ab").mismatches(0));
    }

    private static void mismatchesOf() {
        promise = "19 mismatchesOf";
        BlankMatcher x = of("bbab.", "aba.");
        due("a at 0", 1, () -> x.mismatchesOf(0, 1));
        due("b at 0", 0, () -> x.mismatchesOf(0, 2));
        due("a at 1", 2, () -> x.mismatchesOf(1, 1));
        due("b at 1", 1, () -> x.mismatchesOf(1, 2));
        due("z at 1", 0, () -> x.mismatchesOf(1, 26));
        due("z", 1, () -> of("a", "z").mismatchesOf(0, 26));
        due("of the text's letter", 0, () -> of("a", "z").mismatchesOf(0, 1));
        due("all of the longest pattern", 24, () -> of("a".repeat(64), "z".repeat(24)).mismatchesOf(40, 26));
        BlankMatcher shortened = of("abcd", "zzzz");
        shortened.takePattern(0, 0);
        shortened.appendPattern(26);
        due("not of symbols that were cleared", 1, () -> shortened.mismatchesOf(0, 26));
        for (int letter : new int[] {0, -1, 27, MOST, LEAST}) {
            refused("letter " + letter, ARGUMENT, () -> x.mismatchesOf(0, letter));
            refused("letter " + letter + " and a wrong place", ARGUMENT, () -> x.mismatchesOf(9, letter));
        }
        refusedPlaces("place", x, 2, place -> x.mismatchesOf(place, 1));
    }

    private static void nextMismatch() {
        promise = "20 nextMismatch";
        BlankMatcher x = of("xabcb", "acc.");
        due("at 1 from 0", 1, () -> x.nextMismatch(1, 0));
        due("at 1 from 1", 1, () -> x.nextMismatch(1, 1));
        due("at 1 from 2", -1, () -> x.nextMismatch(1, 2));
        due("at 0 from 0", 0, () -> x.nextMismatch(0, 0));
        due("at 0 from 2", 2, () -> x.nextMismatch(0, 2));
        due("at 0 from the end", -1, () -> x.nextMismatch(0, 4));
        due("at 0 from far behind the end", -1, () -> x.nextMismatch(0, MOST));
        due("of the empty pattern", -1, () -> of("", "").nextMismatch(0, 0));
        for (int from : new int[] {-1, LEAST}) {
            refused("from " + from, ARGUMENT, () -> x.nextMismatch(0, from));
            refused("from " + from + " and a wrong place", ARGUMENT, () -> x.nextMismatch(9, from));
        }
        refusedPlaces("place", x, 2, place -> x.nextMismatch(place, 0));
    }

    private static void agreement() {
        promise = "21 agreement";
        BlankMatcher x = of("abc.e", "bcdx");
        due("from b", 3, () -> x.agreement(1, 0));
        due("from c", 2, () -> x.agreement(2, 1));
        due("a mismatch at once", 0, () -> x.agreement(0, 0));
        due("to the end of the text", 1, () -> of("ab", "bcd").agreement(1, 0));
        due("to the end of the pattern", 2, () -> of("abcd", "xbc").agreement(1, 1));
        due("to both ends", 2, () -> of("abc", "bc").agreement(1, 0));
        due("at the end of the text", 0, () -> x.agreement(5, 0));
        due("at the end of the pattern", 0, () -> x.agreement(0, 4));
        due("at both ends", 0, () -> x.agreement(5, 4));
        due("of both empty", 0, () -> of("", "").agreement(0, 0));
        due("of a longer pattern", 1, () -> of("a", "ab").agreement(0, 0));
        due("of the longest", 24, () -> of("a".repeat(64), "a".repeat(24)).agreement(40, 0));
        for (int index : new int[] {-1, 6, MOST, LEAST}) {
            refused("index " + index, ARGUMENT, () -> x.agreement(index, 0));
        }
        for (int from : new int[] {-1, 5, MOST, LEAST}) {
            refused("from " + from, ARGUMENT, () -> x.agreement(0, from));
        }
    }

    private static void within() {
        promise = "22 within";
        BlankMatcher x = of("abc.bd", "abd");
        due("0", 1, () -> x.within(0));
        due("1", 2, () -> x.within(1));
        due("2", 4, () -> x.within(2));
        due("the greatest", 4, () -> x.within(MOST));
        due("of the empty pattern", 3, () -> of("ab", "").within(0));
        due("of a longer pattern", 0, () -> of("a", "ab").within(5));
        refused("-1", ARGUMENT, () -> x.within(-1));
        refused("the least", ARGUMENT, () -> x.within(LEAST));
        refused("-1 of a longer pattern", ARGUMENT, () -> of("a", "ab").within(-1));
    }

    private static void ranked() {
        promise = "23 ranked";
        BlankMatcher x = of("abxdabxxb", "ab");
        // The mismatches are 0 2 2 2 0 2 2 1.
        int[] order = {0, 4, 7, 1, 2, 3, 5, 6};
        for (int rank = 0; rank < order.length; rank++) {
            int at = rank;
            due("rank " + rank, order[rank], () -> x.ranked(at));
        }
        refusedPlaces("rank", x, 8, rank -> x.ranked(rank));
        due("the first place as the last", 0, () -> of("xab", "ab").ranked(1));
        due("of the empty pattern", 64, () -> of("a".repeat(64), "").ranked(64));
        due("all mismatches", 40, () -> of("a".repeat(64), "b".repeat(24)).ranked(40));
        refused("of a longer pattern", INDEX, () -> of("a", "ab").ranked(0));
    }

    private static void bestLetter() {
        promise = "24 bestLetter";
        BlankMatcher x = of("zbzb.acc", "ab");
        // Symbol 0 meets z b z b . a c; symbol 1 meets b z b . a c c.
        due("0, the lowest of two", 2, () -> x.bestLetter(0));
        due("1, the lowest of two", 2, () -> x.bestLetter(1));
        due("only symbols at places count", 26, () -> of("zaaaa", "aaaaa").bestLetter(0));
        due("only symbols at places count, at the end", 26, () -> of("aaaaz", "aaaaa").bestLetter(4));
        due("blanks alone", 1, () -> of("...", "z").bestLetter(0));
        due("the blanks outnumber", 3, () -> of("..c.", "z").bestLetter(0));
        due("no places", 1, () -> of("zz", "zzz").bestLetter(2));
        due("a blank in the pattern", 4, () -> of("dd", ".").bestLetter(0));
        refusedPlaces("index", x, 2, index -> x.bestLetter(index));
        refused("of the empty pattern", INDEX, () -> of("a", "").bestLetter(0));
    }

    // ---- sums and orders

    private static void sumMatches() {
        promise = "25 sumMatches";
        due("letters", 3, () -> of("bbacad", "bb").sumMatches());
        due("the blank is 0", 2, () -> of("d.db", "bb").sumMatches());
        due("a blank in the pattern is 0", 1, () -> of("abcd", ".e").sumMatches());
        due("none", 0, () -> of("aaa", "ab").sumMatches());
        due("the empty pattern", 4, () -> of("abc", "").sumMatches());
        due("a longer pattern", 0, () -> of("a", "..").sumMatches());
        due("the greatest sums", 41, () -> of("z".repeat(64), "z".repeat(24)).sumMatches());
    }

    private static void sumMatch() {
        promise = "26 sumMatch";
        BlankMatcher x = of("bbad.d", "ad");
        // The sums are 4 3 5 4 4.
        due("0", 2, () -> x.sumMatch(0));
        refusedPlaces("match", x, 1, match -> x.sumMatch(match));
        BlankMatcher y = of("bbad.d", "bb");
        due("0 of three", 0, () -> y.sumMatch(0));
        due("1 of three", 3, () -> y.sumMatch(1));
        due("2 of three", 4, () -> y.sumMatch(2));
        refusedPlaces("match of three", y, 3, match -> y.sumMatch(match));
        refused("of a longer pattern", INDEX, () -> of("a", "ab").sumMatch(0));
    }

    private static void orderMatches() {
        promise = "27 orderMatches";
        due("rising", 3, () -> of("abcab", "xz").orderMatches());
        due("equal", 2, () -> of("aabb", "cc").orderMatches());
        due("falling", 1, () -> of("abca", "zx").orderMatches());
        due("not neighbours alone", 1, () -> of("acbbca", "xzy").orderMatches());
        due("equal at a distance", 1, () -> of("acaabc", "bcb").orderMatches());
        due("the blank is 0, not equal to all", 1, () -> of(".ab.", "a.").orderMatches());
        due("blanks are equal", 2, () -> of("aab..", "..").orderMatches());
        due("one symbol", 3, () -> of("abc", "z").orderMatches());
        due("the empty pattern", 4, () -> of("abc", "").orderMatches());
        due("a longer pattern", 0, () -> of("a", "ab").orderMatches());
    }

    private static void orderMatch() {
        promise = "28 orderMatch";
        BlankMatcher x = of("acbdbacb", "mzp");
        // The windows are acb cbd bdb dba bac acb.
        due("0", 0, () -> x.orderMatch(0));
        due("1", 5, () -> x.orderMatch(1));
        refusedPlaces("match", x, 2, match -> x.orderMatch(match));
        due("of the empty pattern", 3, () -> of("abc", "").orderMatch(3));
        refused("of a longer pattern", INDEX, () -> of("a", "ab").orderMatch(0));
    }

    // ---- periods

    private static long flag(boolean answer) {
        return answer ? 1 : 0;
    }

    private static void hasPeriod() {
        promise = "29 hasPeriod";
        BlankMatcher x = of("abcab.ab", "a");
        due("3", 1, () -> flag(x.hasPeriod(3)));
        due("1", 0, () -> flag(x.hasPeriod(1)));
        due("2", 0, () -> flag(x.hasPeriod(2)));
        due("6", 1, () -> flag(x.hasPeriod(6)));
        due("7", 0, () -> flag(x.hasPeriod(7)));
        due("as long as the text", 1, () -> flag(x.hasPeriod(8)));
        due("the greatest", 1, () -> flag(x.hasPeriod(MOST)));
        due("blanks are not passed on", 1, () -> flag(of("a.b", "").hasPeriod(1)));
        due("no farther", 0, () -> flag(of("a.b", "").hasPeriod(2)));
        due("of the empty text", 1, () -> flag(of("", "").hasPeriod(1)));
        for (int period : new int[] {0, -1, LEAST}) {
            refused("period " + period, ARGUMENT, () -> flag(x.hasPeriod(period)));
        }
        refused("period 0 of the empty text", ARGUMENT, () -> flag(of("", "").hasPeriod(0)));
    }

    private static void leastPeriod() {
        promise = "30 leastPeriod";
        due("3", 3, () -> of("abcabca", "").leastPeriod());
        due("with a blank", 3, () -> of("abcab.ab", "").leastPeriod());
        due("not passed on", 1, () -> of("a.b", "").leastPeriod());
        due("its length", 4, () -> of("abcd", "").leastPeriod());
        due("one less than its length", 3, () -> of("abca", "").leastPeriod());
        due("one symbol", 1, () -> of("a", "").leastPeriod());
        due("the empty text", 1, () -> of("", "ab").leastPeriod());
        due("the longest", 64, () -> of("a".repeat(63) + "b", "").leastPeriod());
        due("the longest of one letter", 1, () -> of("a".repeat(64), "").leastPeriod());
    }

    // ---- a call that throws changes nothing

    private static void throwingChangesNothing() {
        promise = "exceptions";
        BlankMatcher x = of("ab.cab", "b.");
        Call[] calls = {
            () -> x.appendText(27), () -> x.repeatText(0, 0), () -> x.repeatText(0, 7),
            () -> x.setText(6, 1), () -> x.setText(0, 27), () -> x.appendPattern(27),
            () -> x.setPattern(2, 1), () -> x.setPattern(0, 27), () -> x.takePattern(0, 25),
            () -> x.takePattern(0, 7), () -> x.product(-1), () -> x.difference(5), () -> x.match(9),
            () -> x.mismatches(5), () -> x.mismatchesOf(0, 0), () -> x.nextMismatch(0, -1),
            () -> x.agreement(7, 0), () -> x.within(-1), () -> x.ranked(5), () -> x.bestLetter(2),
            () -> x.sumMatch(9), () -> x.orderMatch(9), () -> flag(x.hasPeriod(0)),
        };
        for (int i = 0; i < calls.length; i++) {
            try {
                calls[i].run();
                report("call " + i + " did not throw");
            } catch (RuntimeException e) {
                holds(x, "ab.cab", "b.");
            }
        }
    }
}
