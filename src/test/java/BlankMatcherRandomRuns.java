import java.util.ArrayList;
import java.util.Comparator;
import java.util.List;
import java.util.Random;
import java.util.function.IntPredicate;
import java.util.stream.Collectors;
import java.util.stream.IntStream;

// Long runs of calls, made from fixed seeds, against a plain second program of the same document.
public final class BlankMatcherRandomRuns {
    private static final int RUNS = 2000;
    private static final int CALLS = 512;
    private static final String[] NAMES = {
        "appendText", "repeatText", "setText", "appendPattern", "setPattern", "takePattern", "clearText",
        "clearPattern", "textLength", "patternLength", "places", "product", "difference", "matches", "match",
        "apart", "mismatches", "mismatchesOf", "nextMismatch", "agreement", "within", "ranked", "bestLetter",
        "sumMatches", "sumMatch", "orderMatches", "orderMatch", "hasPeriod", "leastPeriod",
    };
    // How often each call of the list above is drawn: a text that is often cleared never grows long.
    private static final int[] WEIGHTS = {
        60, 8, 12, 40, 12, 10, 1, 2, 2, 2, 4, 10, 10, 8, 10, 8, 8, 12, 12, 12, 8, 14, 10, 6, 10, 8, 10, 8, 8,
    };
    private static final int[] EDGES = {
        Integer.MIN_VALUE, Integer.MIN_VALUE + 1, -64, -2, -1, 23, 24, 25, 26, 27, 63, 64, 65, 66, 87, 88,
        Integer.MAX_VALUE - 64, Integer.MAX_VALUE - 1, Integer.MAX_VALUE,
    };

    public static void main(String[] args) {
        for (int seed = 0; seed < RUNS; seed++) {
            if (!run(seed)) {
                System.exit(1);
            }
        }
        System.out.println(RUNS + " runs answer as the second program does");
    }

    private static boolean run(int seed) {
        Random random = new Random(seed);
        BlankMatcher x = new BlankMatcher();
        Model model = new Model();
        int letters = new int[] {1, 2, 3, 26}[seed % 4];
        StringBuilder told = new StringBuilder();
        for (int i = 0; i < CALLS; i++) {
            String name = drawName(random);
            int a = drawNumber(random, letters, name, 0);
            int b = drawNumber(random, letters, name, 1);
            String got = answer(x, name, a, b);
            String want = model.answer(name, a, b);
            told.append(name).append('(').append(a).append(", ").append(b).append(") ").append(got).append('\n');
            if (!got.equals(want)) {
                System.out.print(told);
                System.out.println("run " + seed + ": due is " + want);
                return false;
            }
        }
        return true;
    }

    private static String drawName(Random random) {
        int sum = 0;
        for (int weight : WEIGHTS) {
            sum += weight;
        }
        int left = random.nextInt(sum);
        int at = 0;
        while (left >= WEIGHTS[at]) {
            left -= WEIGHTS[at];
            at++;
        }
        return NAMES[at];
    }

    private static int drawNumber(Random random, int letters, String name, int which) {
        if (random.nextInt(25) == 0) {
            return EDGES[random.nextInt(EDGES.length)];
        }
        boolean symbol = name.startsWith("append") || name.startsWith("set") && which == 1
            || name.equals("mismatchesOf") && which == 1;
        if (symbol) {
            return random.nextInt(6) == 0 ? 0 : 1 + random.nextInt(letters);
        }
        return random.nextInt(random.nextInt(3) == 0 ? 70 : 8);
    }

    private static String answer(BlankMatcher x, String name, int a, int b) {
        try {
            return String.valueOf(call(x, name, a, b));
        } catch (RuntimeException e) {
            return e.getClass().getSimpleName();
        }
    }

    private static int call(BlankMatcher x, String name, int a, int b) {
        switch (name) {
            case "appendText": return x.appendText(a);
            case "repeatText": return x.repeatText(a, b);
            case "setText": return x.setText(a, b);
            case "appendPattern": return x.appendPattern(a);
            case "setPattern": return x.setPattern(a, b);
            case "takePattern": return x.takePattern(a, b);
            case "clearText": return x.clearText();
            case "clearPattern": return x.clearPattern();
            case "textLength": return x.textLength();
            case "patternLength": return x.patternLength();
            case "places": return x.places();
            case "product": return x.product(a);
            case "difference": return x.difference(a);
            case "matches": return x.matches();
            case "match": return x.match(a);
            case "apart": return x.apart();
            case "mismatches": return x.mismatches(a);
            case "mismatchesOf": return x.mismatchesOf(a, b);
            case "nextMismatch": return x.nextMismatch(a, b);
            case "agreement": return x.agreement(a, b);
            case "within": return x.within(a);
            case "ranked": return x.ranked(a);
            case "bestLetter": return x.bestLetter(a);
            case "sumMatches": return x.sumMatches();
            case "sumMatch": return x.sumMatch(a);
            case "orderMatches": return x.orderMatches();
            case "orderMatch": return x.orderMatch(a);
            case "hasPeriod": return x.hasPeriod(a) ? 1 : 0;
            case "leastPeriod": return x.leastPeriod();
            default: throw new AssertionError(name);
        }
    }

    /** The document once more, with lists, sorting and whole polynomials. */
    private static final class Model {
        private static final String A = "IllegalArgumentException";
        private static final String B = "IndexOutOfBoundsException";
        private static final String S = "IllegalStateException";

        private final List<Integer> text = new ArrayList<>();
        private final List<Integer> pattern = new ArrayList<>();

        String answer(String name, int a, int b) {
            switch (name) {
                case "appendText": return append(text, a, 64);
                case "repeatText": return repeat(a, b);
                case "setText": return replace(text, a, b);
                case "appendPattern": return append(pattern, a, 24);
                case "setPattern": return replace(pattern, a, b);
                case "takePattern": return take(a, b);
                case "clearText": return clear(text);
                case "clearPattern": return clear(pattern);
                case "textLength": return "" + text.size();
                case "patternLength": return "" + pattern.size();
                case "places": return "" + placeList().size();
                case "product": return a < 0 ? A : "" + coefficient(a);
                case "matches": return "" + exact().size();
                case "match": return element(exact(), a);
                case "apart": return "" + apart();
                case "agreement": return agreement(a, b);
                case "within": return a < 0 ? A : "" + those(p -> mismatchList(p).size() <= a).size();
                case "ranked": return element(ranking(), a);
                case "bestLetter": return bestLetter(a);
                case "sumMatches": return "" + those(this::sameSum).size();
                case "sumMatch": return element(those(this::sameSum), a);
                case "orderMatches": return "" + those(this::sameOrder).size();
                case "orderMatch": return element(those(this::sameOrder), a);
                case "hasPeriod": return a < 1 ? A : periodic(a) ? "1" : "0";
                case "leastPeriod": return "" + IntStream.iterate(1, p -> p + 1).filter(this::periodic).findFirst().getAsInt();
                default: return atPlace(name, a, b);
            }
        }

        private String atPlace(String name, int place, int b) {
            if (name.equals("mismatchesOf") && (b < 1 || b > 26) || name.equals("nextMismatch") && b < 0) {
                return A;
            }
            if (!placeList().contains(place)) {
                return B;
            }
            List<Integer> found = mismatchList(place);
            switch (name) {
                case "difference": return "" + difference(place);
                case "mismatches": return "" + found.size();
                case "mismatchesOf": return "" + found.stream().filter(j -> pattern.get(j) == b).count();
                case "nextMismatch": return "" + found.stream().filter(j -> j >= b).findFirst().orElse(-1);
                default: throw new AssertionError(name);
            }
        }

        private static boolean wrongSymbol(int symbol) {
            return symbol < 0 || symbol > 26;
        }

        private static String append(List<Integer> row, int symbol, int limit) {
            if (wrongSymbol(symbol)) {
                return A;
            }
            if (row.size() == limit) {
                return S;
            }
            row.add(symbol);
            return "" + row.size();
        }

        private static String replace(List<Integer> row, int index, int symbol) {
            if (index < 0 || index >= row.size()) {
                return B;
            }
            return wrongSymbol(symbol) ? A : "" + row.set(index, symbol);
        }

        private static String clear(List<Integer> row) {
            String before = "" + row.size();
            row.clear();
            return before;
        }

        private String repeat(int from, int many) {
            if (many < 1) {
                return A;
            }
            if (from < 0 || (long) from + many > text.size()) {
                return B;
            }
            if (text.size() + many > 64) {
                return S;
            }
            text.addAll(new ArrayList<>(text.subList(from, from + many)));
            return "" + text.size();
        }

        private String take(int from, int many) {
            if (many < 0 || many > 24) {
                return A;
            }
            if (from < 0 || (long) from + many > text.size()) {
                return B;
            }
            pattern.clear();
            pattern.addAll(text.subList(from, from + many));
            return "" + pattern.stream().filter(symbol -> symbol == 0).count();
        }

        private static boolean agree(int one, int other) {
            return one * other == 0 || one == other;
        }

        private List<Integer> placeList() {
            List<Integer> places = new ArrayList<>();
            for (int place = 0; place + pattern.size() <= text.size(); place++) {
                places.add(place);
            }
            return places;
        }

        private List<Integer> those(IntPredicate wanted) {
            return placeList().stream().filter(wanted::test).collect(Collectors.toList());
        }

        private List<Integer> exact() {
            return those(place -> mismatchList(place).isEmpty());
        }

        private static String element(List<Integer> row, int index) {
            return index < 0 || index >= row.size() ? B : "" + row.get(index);
        }

        private List<Integer> mismatchList(int place) {
            List<Integer> found = new ArrayList<>();
            for (int j = 0; j < pattern.size(); j++) {
                if (!agree(pattern.get(j), text.get(place + j))) {
                    found.add(j);
                }
            }
            return found;
        }

        private int coefficient(int power) {
            int[] product = new int[text.size() + pattern.size() + 1];
            for (int i = 0; i < text.size(); i++) {
                for (int j = 0; j < pattern.size(); j++) {
                    product[i + pattern.size() - 1 - j] += text.get(i) * pattern.get(j);
                }
            }
            return power < product.length ? product[power] : 0;
        }

        private int difference(int place) {
            int sum = 0;
            for (int j = 0; j < pattern.size(); j++) {
                int p = pattern.get(j);
                int t = text.get(place + j);
                sum += p * t * (p * p - 2 * p * t + t * t);
            }
            return sum;
        }

        private int apart() {
            int taken = 0;
            int free = 0;
            for (int place : exact()) {
                if (place >= free) {
                    taken++;
                    free = place + pattern.size();
                }
            }
            return taken;
        }

        private String agreement(int index, int from) {
            if (index < 0 || index > text.size() || from < 0 || from > pattern.size()) {
                return A;
            }
            int i = index;
            int j = from;
            while (i < text.size() && j < pattern.size() && agree(text.get(i), pattern.get(j))) {
                i++;
                j++;
            }
            return "" + (i - index);
        }

        private List<Integer> ranking() {
            List<Integer> places = placeList();
            places.sort(Comparator.comparingInt((Integer place) -> mismatchList(place).size()).thenComparingInt(place -> place));
            return places;
        }

        private String bestLetter(int index) {
            if (index < 0 || index >= pattern.size()) {
                return B;
            }
            int before = pattern.get(index);
            int best = 0;
            int fewest = Integer.MAX_VALUE;
            for (int letter = 1; letter <= 26; letter++) {
                pattern.set(index, letter);
                int all = placeList().stream().mapToInt(place -> mismatchList(place).size()).sum();
                if (all < fewest) {
                    best = letter;
                    fewest = all;
                }
            }
            pattern.set(index, before);
            return "" + best;
        }

        private List<Integer> window(int place) {
            return text.subList(place, place + pattern.size());
        }

        private static int sum(List<Integer> row) {
            return row.stream().mapToInt(Integer::intValue).sum();
        }

        private boolean sameSum(int place) {
            return sum(window(place)) == sum(pattern);
        }

        private static List<Long> ranks(List<Integer> row) {
            return row.stream().map(symbol -> row.stream().distinct().filter(other -> other < symbol).count())
                .collect(Collectors.toList());
        }

        private boolean sameOrder(int place) {
            return ranks(window(place)).equals(ranks(pattern));
        }

        private boolean periodic(int period) {
            for (int i = 0; i < text.size(); i++) {
                for (int k = i + 1; k < text.size(); k++) {
                    if (k - i == period && !agree(text.get(i), text.get(k))) {
                        return false;
                    }
                }
            }
            return true;
        }
    }
}
