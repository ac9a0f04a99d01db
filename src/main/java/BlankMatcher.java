/** A library for matching with blanks and mismatches. */
public final class BlankMatcher {
    public static final int NONE = -1;
    public static final int BLANK = 0;

    private static final int LAST_LETTER = 26;
    private static final int TEXT_LIMIT = 64;
    private static final int PATTERN_LIMIT = 24;

    /** The three ways in which a window can be like the pattern. */
    private enum Likeness { SYMBOLS, SUM, ORDER }

    private final int[] text;
    private final int[] pattern;
    // Made once, because every object of a run is kept: a row made by each call would add up.
    private final int[] mismatchesByPlace;
    private int textSize;
    private int patternSize;

    public BlankMatcher() {
        text = new int[TEXT_LIMIT];
        pattern = new int[PATTERN_LIMIT];
        // The empty pattern has one place more than the text has symbols.
        mismatchesByPlace = new int[TEXT_LIMIT + 1];
        textSize = 0;
        patternSize = 0;
    }

    // ---- the text and the pattern

    public int appendText(int symbol) throws IllegalArgumentException, IllegalStateException {
        requireSymbol(symbol);
        if (textSize >= TEXT_LIMIT) {
            throw new IllegalStateException("the text is full");
        }
        text[textSize] = symbol;
        textSize++;
        return textSize;
    }

    public int repeatText(int from, int many)
            throws IllegalArgumentException, IndexOutOfBoundsException, IllegalStateException {
        if (many < 1) {
            throw new IllegalArgumentException("many is below 1");
        }
        requirePartOfText(from, many);
        if (many > TEXT_LIMIT - textSize) {
            throw new IllegalStateException("the text would be too long");
        }
        System.arraycopy(text, from, text, textSize, many);
        textSize += many;
        return textSize;
    }

    public int setText(int index, int symbol) throws IndexOutOfBoundsException, IllegalArgumentException {
        if (index < 0 || index >= textSize) {
            throw new IndexOutOfBoundsException("no such symbol in the text");
        }
        requireSymbol(symbol);
        int before = text[index];
        text[index] = symbol;
        return before;
    }

    public int appendPattern(int symbol) throws IllegalArgumentException, IllegalStateException {
        requireSymbol(symbol);
        if (patternSize >= PATTERN_LIMIT) {
            throw new IllegalStateException("the pattern is full");
        }
        pattern[patternSize] = symbol;
        patternSize++;
        return patternSize;
    }

    public int setPattern(int index, int symbol) throws IndexOutOfBoundsException, IllegalArgumentException {
        requirePatternIndex(index);
        requireSymbol(symbol);
        int before = pattern[index];
        pattern[index] = symbol;
        return before;
    }

    public int takePattern(int from, int many) throws IllegalArgumentException, IndexOutOfBoundsException {
        if (many < 0 || many > PATTERN_LIMIT) {
            throw new IllegalArgumentException("many is out of range");
        }
        requirePartOfText(from, many);
        System.arraycopy(text, from, pattern, 0, many);
        patternSize = many;
        return blanksInPattern();
    }

    public int clearText() {
        int before = textSize;
        textSize = 0;
        return before;
    }

    public int clearPattern() {
        int before = patternSize;
        patternSize = 0;
        return before;
    }

    public int textLength() {
        return textSize;
    }

    public int patternLength() {
        return patternSize;
    }

    public int places() {
        return patternSize > textSize ? 0 : textSize - patternSize + 1;
    }

    // ---- products

    public int product(int power) throws IllegalArgumentException {
        if (power < 0) {
            throw new IllegalArgumentException("power is below 0");
        }
        int sum = 0;
        for (int i = 0; i < textSize; i++) {
            // The pattern is turned round, so its symbol j stands at the power patternSize - 1 - j.
            int j = patternSize - 1 - (power - i);
            if (j >= 0 && j < patternSize) {
                sum += text[i] * pattern[j];
            }
        }
        return sum;
    }

    public int difference(int place) throws IndexOutOfBoundsException {
        requirePlace(place);
        int sum = 0;
        for (int j = 0; j < patternSize; j++) {
            int p = pattern[j];
            int t = text[place + j];
            sum += p * t * (p - t) * (p - t);
        }
        return sum;
    }

    // ---- matches

    public int matches() {
        return countLike(Likeness.SYMBOLS);
    }

    public int match(int match) throws IndexOutOfBoundsException {
        return requireLike(Likeness.SYMBOLS, match);
    }

    public int apart() {
        int count = places();
        // Windows of the empty pattern do not overlap, so the next place is free at once.
        int step = Math.max(1, patternSize);
        int taken = 0;
        int place = 0;
        while (place < count) {
            if (hasSymbols(place)) {
                taken++;
                place += step;
            } else {
                place++;
            }
        }
        return taken;
    }

    // ---- mismatches

    public int mismatches(int place) throws IndexOutOfBoundsException {
        requirePlace(place);
        return countMismatches(place);
    }

    public int mismatchesOf(int place, int letter) throws IllegalArgumentException, IndexOutOfBoundsException {
        if (letter < 1 || letter > LAST_LETTER) {
            throw new IllegalArgumentException("letter is out of range");
        }
        requirePlace(place);
        int count = 0;
        for (int j = 0; j < patternSize; j++) {
            if (pattern[j] == letter && !agree(pattern[j], text[place + j])) {
                count++;
            }
        }
        return count;
    }

    public int nextMismatch(int place, int from) throws IllegalArgumentException, IndexOutOfBoundsException {
        if (from < 0) {
            throw new IllegalArgumentException("from is below 0");
        }
        requirePlace(place);
        return firstMismatch(place, from);
    }

    public int agreement(int index, int from) throws IllegalArgumentException {
        if (index < 0 || index > textSize) {
            throw new IllegalArgumentException("index is out of range");
        }
        if (from < 0 || from > patternSize) {
            throw new IllegalArgumentException("from is out of range");
        }
        int most = Math.min(textSize - index, patternSize - from);
        int count = 0;
        while (count < most && agree(text[index + count], pattern[from + count])) {
            count++;
        }
        return count;
    }

    public int within(int bound) throws IllegalArgumentException {
        if (bound < 0) {
            throw new IllegalArgumentException("bound is below 0");
        }
        int count = places();
        int found = 0;
        for (int place = 0; place < count; place++) {
            if (countMismatches(place) <= bound) {
                found++;
            }
        }
        return found;
    }

    public int ranked(int rank) throws IndexOutOfBoundsException {
        int count = places();
        if (rank < 0 || rank >= count) {
            throw new IndexOutOfBoundsException("no such rank");
        }
        for (int place = 0; place < count; place++) {
            mismatchesByPlace[place] = countMismatches(place);
        }
        return placeOfRank(rank, count);
    }

    public int bestLetter(int index) throws IndexOutOfBoundsException {
        requirePatternIndex(index);
        int best = 1;
        int bestCount = countLetter(index, best);
        for (int letter = 2; letter <= LAST_LETTER; letter++) {
            int count = countLetter(index, letter);
            if (count > bestCount) {
                best = letter;
                bestCount = count;
            }
        }
        return best;
    }

    // ---- sums and orders: symbols are taken as numbers, the blank as 0

    public int sumMatches() {
        return countLike(Likeness.SUM);
    }

    public int sumMatch(int match) throws IndexOutOfBoundsException {
        return requireLike(Likeness.SUM, match);
    }

    public int orderMatches() {
        return countLike(Likeness.ORDER);
    }

    public int orderMatch(int match) throws IndexOutOfBoundsException {
        return requireLike(Likeness.ORDER, match);
    }

    // ---- periods

    public boolean hasPeriod(int period) throws IllegalArgumentException {
        if (period < 1) {
            throw new IllegalArgumentException("period is below 1");
        }
        return repeatsAfter(period);
    }

    public int leastPeriod() {
        for (int period = 1; period < textSize; period++) {
            if (repeatsAfter(period)) {
                return period;
            }
        }
        // No two symbols are as far apart as the text is long; the empty text has the period 1.
        return Math.max(1, textSize);
    }

    // ---- what must hold before a call goes on

    private static void requireSymbol(int symbol) {
        if (symbol < BLANK || symbol > LAST_LETTER) {
            throw new IllegalArgumentException("symbol is out of range");
        }
    }

    private void requirePatternIndex(int index) {
        if (index < 0 || index >= patternSize) {
            throw new IndexOutOfBoundsException("no such symbol in the pattern");
        }
    }

    /** Takes a many of 0 or more. */
    private void requirePartOfText(int from, int many) {
        // from + many could wrap round; textSize - many cannot.
        if (from < 0 || from > textSize - many) {
            throw new IndexOutOfBoundsException("the text has no such part");
        }
    }

    private void requirePlace(int place) {
        if (place < 0 || place >= places()) {
            throw new IndexOutOfBoundsException("no such place");
        }
    }

    private int requireLike(Likeness likeness, int match) {
        int place = findLike(likeness, match);
        if (place == NONE) {
            throw new IndexOutOfBoundsException("no such match");
        }
        return place;
    }

    // ---- windows that are like the pattern

    private int countLike(Likeness likeness) {
        int count = places();
        int alike = 0;
        for (int place = 0; place < count; place++) {
            if (isLike(likeness, place)) {
                alike++;
            }
        }
        return alike;
    }

    private int findLike(Likeness likeness, int match) {
        int count = places();
        int alike = 0;
        for (int place = 0; place < count; place++) {
            if (isLike(likeness, place)) {
                if (alike == match) {
                    return place;
                }
                alike++;
            }
        }
        return NONE;
    }

    private boolean isLike(Likeness likeness, int place) {
        if (likeness == Likeness.SUM) {
            return hasSum(place);
        }
        if (likeness == Likeness.ORDER) {
            return hasOrder(place);
        }
        return hasSymbols(place);
    }

    private boolean hasSymbols(int place) {
        return firstMismatch(place, 0) == NONE;
    }

    private boolean hasSum(int place) {
        int excess = 0;
        for (int j = 0; j < patternSize; j++) {
            excess += text[place + j] - pattern[j];
        }
        return excess == 0;
    }

    private boolean hasOrder(int place) {
        for (int j = 1; j < patternSize; j++) {
            if (!hasOrderUpTo(place, j)) {
                return false;
            }
        }
        return true;
    }

    private boolean hasOrderUpTo(int place, int last) {
        int p = pattern[last];
        int t = text[place + last];
        for (int j = 0; j < last; j++) {
            int q = pattern[j];
            int u = text[place + j];
            if ((q < p) != (u < t) || (q > p) != (u > t)) {
                return false;
            }
        }
        return true;
    }

    // ---- mismatches and letters

    private static boolean agree(int one, int other) {
        return one == other || one == BLANK || other == BLANK;
    }

    private int countMismatches(int place) {
        int count = 0;
        for (int j = 0; j < patternSize; j++) {
            if (!agree(pattern[j], text[place + j])) {
                count++;
            }
        }
        return count;
    }

    private int firstMismatch(int place, int from) {
        for (int j = from; j < patternSize; j++) {
            if (!agree(pattern[j], text[place + j])) {
                return j;
            }
        }
        return NONE;
    }

    private int placeOfRank(int rank, int count) {
        int before = 0;
        for (int level = 0; level <= patternSize; level++) {
            for (int place = 0; place < count; place++) {
                if (mismatchesByPlace[place] == level) {
                    if (before == rank) {
                        return place;
                    }
                    before++;
                }
            }
        }
        return NONE;
    }

    /**
     * The more often the letter stands there in the text, the fewer mismatches it brings: the
     * blanks of the text agree with each letter alike.
     */
    private int countLetter(int index, int letter) {
        int end = index + places();
        int count = 0;
        for (int i = index; i < end; i++) {
            if (text[i] == letter) {
                count++;
            }
        }
        return count;
    }

    // ---- the text and the pattern by themselves

    private int blanksInPattern() {
        int count = 0;
        for (int j = 0; j < patternSize; j++) {
            if (pattern[j] == BLANK) {
                count++;
            }
        }
        return count;
    }

    private boolean repeatsAfter(int period) {
        for (int i = 0; i < textSize - period; i++) {
            if (!agree(text[i], text[i + period])) {
                return false;
            }
        }
        return true;
    }
}
