import java.util.Random;
import java.util.function.IntSupplier;

/** All promises: long runs of calls, each answer held against PlainFinder's. The seeds are fixed, so runs repeat. */
public final class ModelTest {
    private static final int RUNS = 6000;
    private static final int CALLS_OF_AN_OBJECT = 512;
    private static final int LARGE_RUNS = 24;
    private static final int HITS_SHOWN = 8;
    private static final int PLACES_SHOWN = 20;
    private static final String[] ALPHABETS = {"ab", "ab\n", "abc", "abcd\n", "abx-", "a\n"};
    private static final String[] ELEMENTS = {"a", "b", "c", ".", "[ab]", "[^a]", "[b-d]", "\\a", "x", "[^\n]", "\n", "[b-a]"};
    private static final String PIECES = "ab[]^-\\.\nz";
    private static final int[] EDGES = {-1, 0, 1, 2, 7, 8, 200, 201, 1500, 2000, 2001, Integer.MIN_VALUE, Integer.MAX_VALUE};

    private final Random random;
    private final EditFinder x = new EditFinder();
    private final PlainFinder y = new PlainFinder();
    private final String alphabet;
    private final int mostTyped;
    private final StringBuilder told = new StringBuilder();
    private int calls = 0;

    private ModelTest(long seed) {
        random = new Random(seed);
        alphabet = ALPHABETS[random.nextInt(ALPHABETS.length)];
        mostTyped = random.nextInt(4) == 0 ? 60 : 12;
    }

    public static void main(String[] args) {
        for (int run = 0; run < RUNS && Check.allDue(); run++) {
            ModelTest test = new ModelTest(run);
            while (test.mayCall()) {
                test.anyCall();
            }
            test.explainIfWrong(run);
        }
        for (int run = 0; run < LARGE_RUNS && Check.allDue(); run++) {
            ModelTest test = new ModelTest(1000003 + run);
            test.largeRun();
            test.explainIfWrong(run);
        }
        Check.finish("ModelTest");
    }

    private void explainIfWrong(int run) {
        if (!Check.allDue()) {
            System.out.println("run " + run + told);
        }
    }

    /** Makes the call on both, as long as the document promises an answer. */
    private void due(String call, IntSupplier ofFinder, IntSupplier ofModel) {
        if (calls < CALLS_OF_AN_OBJECT) {
            calls++;
            int got = ofFinder.getAsInt();
            told.append("\n").append(call).append(" -> ").append(got);
            Check.due(call, got, ofModel.getAsInt());
        }
    }

    private boolean mayCall() {
        return calls < CALLS_OF_AN_OBJECT && Check.allDue();
    }

    /** A number that is mostly within 0 .. most, sometimes an edge. */
    private int some(int most) {
        return random.nextInt(40) == 0 ? EDGES[random.nextInt(EDGES.length)] : random.nextInt(most + 1);
    }

    private String word(String letters, int most) {
        StringBuilder made = new StringBuilder();
        int length = random.nextInt(most + 1);
        for (int i = 0; i < length; i++) {
            made.append(letters.charAt(random.nextInt(letters.length())));
        }
        return made.toString();
    }

    private void type(String bytes) {
        for (int i = 0; i < bytes.length(); i += 8) {
            String part = bytes.substring(i, Math.min(bytes.length(), i + 8));
            type(Check.word(part), part.length());
        }
    }

    private void type(long w, int n) {
        due("type " + w + " " + n, () -> x.type(w, n), () -> y.type(w, n));
    }

    private void anyCall() {
        boolean swaps = random.nextBoolean();
        int p = some(3);
        int k = random.nextInt(3) == 0 ? some(12) : some(3);
        switch (random.nextInt(16)) {
            case 0, 1 -> typeAny();
            case 2 -> setPattern(p);
            case 3 -> insert(some(y.length()));
            case 4 -> change(p, k, swaps);
            case 5 -> due("undo", x::undo, y::undo);
            case 6, 7 -> find(p, k, swaps);
            case 8 -> hit(some(5), some(3));
            case 9 -> step(some(5), some(6));
            case 10 -> nearest(p, swaps, some(1));
            case 11 -> lines(p, k, swaps);
            case 12 -> whole(p, some(y.length()), some(y.length()), swaps, someLimit());
            case 13 -> which(some(y.length()), some(y.length()), swaps);
            case 14 -> apart(some(y.length()), some(y.length()), some(y.length()), some(y.length()), swaps, someLimit());
            default -> look(p, some(6), some(126));
        }
    }

    private int someLimit() {
        return some(random.nextBoolean() ? 6 : 100);
    }

    private void typeAny() {
        if (random.nextInt(10) == 0) {
            type(random.nextLong(), some(9));
        } else {
            type(word(alphabet, mostTyped));
        }
    }

    private void setPattern(int p) {
        if (random.nextInt(3) == 0) {
            type(word(PIECES, 12));
        } else {
            for (int i = random.nextInt(6); i >= 0; i--) {
                type(ELEMENTS[random.nextInt(ELEMENTS.length)]);
            }
        }
        pattern(p);
        due("place", x::place, y::place);
    }

    private void pattern(int p) {
        due("pattern " + p, () -> x.pattern(p), () -> y.pattern(p));
    }

    private void insert(int at) {
        due("insert " + at, () -> x.insert(at), () -> y.insert(at));
    }

    private void change(int p, int k, boolean swaps) {
        if (random.nextInt(3) > 0) {
            replace(p, k, swaps);
        } else {
            int from = some(y.length());
            cut(from, random.nextInt(8) == 0 ? some(y.length()) : Math.min(y.length(), from + random.nextInt(5)));
        }
    }

    private void cut(int from, int to) {
        due("cut " + from + " " + to, () -> x.cut(from, to), () -> y.cut(from, to));
    }

    private void replace(int p, int k, boolean swaps) {
        due("replace " + p + " " + k + " " + swaps, () -> x.replace(p, k, swaps), () -> y.replace(p, k, swaps));
        due("length", x::length, y::length);
        int first = random.nextInt(Math.max(1, y.length()));
        for (int i = first; i < first + PLACES_SHOWN; i++) {
            byteAt(i);
        }
    }

    private void byteAt(int i) {
        due("byteAt " + i, () -> x.byteAt(i), () -> y.byteAt(i));
    }

    private void find(int p, int k, boolean swaps) {
        due("find " + p + " " + k + " " + swaps, () -> x.find(p, k, swaps), () -> y.find(p, k, swaps));
        // else later calls show whether the hits stay
        if (random.nextInt(4) != 0) {
            showHits();
        }
    }

    private void showHits() {
        int first = random.nextInt(Math.max(1, y.hitCount()));
        int last = Math.min(y.hitCount(), first + HITS_SHOWN);
        for (int i = first; i < last && mayCall(); i++) {
            for (int what = 0; what < 4; what++) {
                hit(i, what);
            }
            for (int j = 0; j <= y.hit(i, 3); j++) {
                step(i, j);
            }
        }
    }

    private void hit(int i, int what) {
        due("hit " + i + " " + what, () -> x.hit(i, what), () -> y.hit(i, what));
    }

    private void step(int i, int j) {
        due("step " + i + " " + j, () -> x.step(i, j), () -> y.step(i, j));
    }

    private void nearest(int p, boolean swaps, int what) {
        due("nearest " + p + " " + swaps + " " + what, () -> x.nearest(p, swaps, what), () -> y.nearest(p, swaps, what));
    }

    private void lines(int p, int k, boolean swaps) {
        due("lines " + p + " " + k + " " + swaps, () -> x.lines(p, k, swaps), () -> y.lines(p, k, swaps));
        for (int i = -1; i < 4; i++) {
            line(i);
        }
    }

    private void line(int i) {
        due("line " + i, () -> x.line(i), () -> y.line(i));
    }

    private void whole(int p, int from, int to, boolean swaps, int limit) {
        due("whole " + p + " " + from + " " + to + " " + swaps + " " + limit,
            () -> x.whole(p, from, to, swaps, limit), () -> y.whole(p, from, to, swaps, limit));
    }

    private void which(int from, int to, boolean swaps) {
        due("which " + from + " " + to + " " + swaps, () -> x.which(from, to, swaps), () -> y.which(from, to, swaps));
    }

    private void apart(int from, int to, int otherFrom, int otherTo, boolean swaps, int limit) {
        due("apart " + from + " " + to + " " + otherFrom + " " + otherTo + " " + swaps + " " + limit,
            () -> x.apart(from, to, otherFrom, otherTo, swaps, limit), () -> y.apart(from, to, otherFrom, otherTo, swaps, limit));
    }

    private void look(int p, int i, int b) {
        due("has " + p + " " + i + " " + b, () -> x.has(p, i, b), () -> y.has(p, i, b));
        byteAt(i);
        line(i);
        due("length", x::length, y::length);
    }

    /** A text and patterns of the greatest lengths, the patterns being parts of the text with some edits. */
    private void largeRun() {
        String letters = alphabet.contains("-") ? "abx" : alphabet;
        while (y.length() < 1500 && mayCall()) {
            type(word(letters, Math.min(400, 1500 - y.length())));
            insert(y.length());
        }
        for (int p = 0; p < 3 && mayCall(); p++) {
            type(editedPart(p == 0 ? 190 : 30));
            pattern(p);
        }
        int longOne = random.nextInt(2);
        boolean swaps = random.nextBoolean();
        nearest(longOne, swaps, 1);
        lines(longOne, 9, swaps);
        whole(longOne, 0, 1500, swaps, 2000);
        for (int turn = 0; turn < 4; turn++) {
            int from = random.nextInt(700);
            apart(from, 1500 - from, random.nextInt(1000), 1500, turn % 2 == 0, turn < 2 ? 2000 : 100 + random.nextInt(500));
        }
        find(2, 8, swaps);
        type("ba");
        replace(1, 9, swaps);
        due("undo", x::undo, y::undo);
        find(longOne, 8, swaps);
    }

    private String editedPart(int length) {
        int from = random.nextInt(1300);
        StringBuilder part = new StringBuilder(y.text().substring(from, from + length));
        for (int edit = 0; edit < 8; edit++) {
            int at = random.nextInt(part.length() - 1);
            part.insert(at, part.charAt(at + 1)).deleteCharAt(random.nextInt(part.length()));
        }
        return part.toString();
    }
}
