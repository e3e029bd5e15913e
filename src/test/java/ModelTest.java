import java.util.Random;

/** All promises: long runs of calls, each answer held against PlainFinder's. The seeds are fixed, so runs repeat. */
public final class ModelTest {
    private static final int RUNS = 2000;
    private static final int CALLS = 300;
    private static final int LARGE_RUNS = 4;
    private static final String[] ALPHABETS = {"ab", "ab\n", "abc", "abcd\n", "abx-", "a\n"};
    private static final String[] ELEMENTS = {"a", "b", "c", ".", "[ab]", "[^a]", "[b-d]", "\\a", "x", "[^\n]", "\n", "[b-a]"};
    private static final String PIECES = "ab[]^-\\.\nz";
    private static final int[] EDGES = {-1, 0, 1, 2, 7, 8, 200, 201, 1500, 2000, 2001, Integer.MIN_VALUE, Integer.MAX_VALUE};

    private final Random random;
    private final EditFinder x = new EditFinder();
    private final PlainFinder y = new PlainFinder();
    private final String alphabet;
    private final int mostTyped;
    private final StringBuilder told = new StringBuilder();

    private ModelTest(long seed) {
        random = new Random(seed);
        alphabet = ALPHABETS[random.nextInt(ALPHABETS.length)];
        mostTyped = random.nextInt(4) == 0 ? 60 : 12;
    }

    public static void main(String[] args) {
        for (int run = 0; run < RUNS && Check.allDue(); run++) {
            ModelTest test = new ModelTest(run);
            for (int call = 0; call < CALLS && Check.allDue(); call++) {
                test.anyCall();
            }
            test.compareTexts();
            test.explainIfWrong(run);
        }
        for (int run = 0; run < LARGE_RUNS && Check.allDue(); run++) {
            ModelTest test = new ModelTest(1000003 + run);
            test.largeRun();
            test.explainIfWrong(run);
        }
        Check.finish("ModelTest");
    }

    private void explainIfWrong(int run) {
        if (!Check.allDue()) {
            System.out.println("run " + run + told);
        }
    }

    private void due(String call, int got, int want) {
        told.append("\n").append(call).append(" -> ").append(got);
        Check.due(call, got, want);
    }

    /** A number that is mostly within 0 .. most, sometimes an edge. */
    private int some(int most) {
        return random.nextInt(40) == 0 ? EDGES[random.nextInt(EDGES.length)] : random.nextInt(most + 1);
    }

    private String word(String letters, int most) {
        StringBuilder made = new StringBuilder();
        int length = random.nextInt(most + 1);
        for (int i = 0; i < length; i++) {
            made.append(letters.charAt(random.nextInt(letters.length())));
        }
        return made.toString();
    }

    private void type(String bytes) {
        for (int i = 0; i < bytes.length(); i += 8) {
            String part = bytes.substring(i, Math.min(bytes.length(), i + 8));
            long w = Check.word(part);
            due("type " + part, x.type(w, part.length()), y.type(w, part.length()));
        }
    }

    private void anyCall() {
        boolean swaps = random.nextBoolean();
        int p = some(3);
        int k = random.nextInt(3) == 0 ? some(12) : some(3);
        switch (random.nextInt(16)) {
            case 0 -> typeAny();
            case 1 -> setPattern(p);
            case 2 -> {
                int at = some(y.length());
                due("insert " + at, x.insert(at), y.insert(at));
            }
            case 3 -> change(p, k, swaps);
            case 4 -> due("undo", x.undo(), y.undo());
            case 5, 6 -> find(p, k, swaps);
            case 7 -> {
                int what = some(3);
                int i = some(5);
                due("hit " + i + " " + what, x.hit(i, what), y.hit(i, what));
            }
            case 8 -> {
                int i = some(5);
                int j = some(6);
                due("step " + i + " " + j, x.step(i, j), y.step(i, j));
            }
            case 9, 10 -> {
                int what = some(1);
                due("nearest " + p + swaps + what, x.nearest(p, swaps, what), y.nearest(p, swaps, what));
            }
            case 11 -> lines(p, k, swaps);
            case 12 -> whole(p, swaps);
            case 13 -> {
                int from = some(y.length());
                int to = some(y.length());
                due("which " + from + " " + to + swaps, x.which(from, to, swaps), y.which(from, to, swaps));
            }
            case 14 -> apart(swaps);
            default -> looks(p);
        }
    }

    private void typeAny() {
        if (random.nextInt(10) == 0) {
            long w = random.nextLong();
            int n = some(9);
            due("type " + w + " " + n, x.type(w, n), y.type(w, n));
        } else {
            type(word(alphabet, mostTyped));
        }
    }

    private void setPattern(int p) {
        if (random.nextInt(3) == 0) {
            type(word(PIECES, 12));
        } else {
            for (int i = random.nextInt(6); i >= 0; i--) {
                type(ELEMENTS[random.nextInt(ELEMENTS.length)]);
            }
        }
        due("pattern " + p, x.pattern(p), y.pattern(p));
        due("place", x.place(), y.place());
    }

    private void change(int p, int k, boolean swaps) {
        if (random.nextInt(3) > 0) {
            due("replace " + p + " " + k + swaps, x.replace(p, k, swaps), y.replace(p, k, swaps));
            compareTexts();
        } else {
            int from = some(y.length());
            int to = random.nextInt(8) == 0 ? some(y.length()) : Math.min(y.length(), from + random.nextInt(5));
            due("cut " + from + " " + to, x.cut(from, to), y.cut(from, to));
        }
    }

    private void find(int p, int k, boolean swaps) {
        due("find " + p + " " + k + swaps, x.find(p, k, swaps), y.find(p, k, swaps));
        if (random.nextInt(4) == 0) {
            // later calls may not change what these answer
            return;
        }
        compareHits(40);
    }

    private void compareHits(int most) {
        for (int i = 0; y.hit(i, 0) > 0; i++) {
            for (int what = 0; what < 3; what++) {
                due("hit " + i + " " + what, x.hit(i, what), y.hit(i, what));
            }
            if (i < most || i % 97 == 0) {
                due("hit " + i + " steps", x.hit(i, 3), y.hit(i, 3));
                for (int j = 0; j <= y.hit(i, 3); j++) {
                    due("step " + i + " " + j, x.step(i, j), y.step(i, j));
                }
            }
        }
    }

    private void lines(int p, int k, boolean swaps) {
        int count = y.lines(p, k, swaps);
        due("lines " + p + " " + k + swaps, x.lines(p, k, swaps), count);
        for (int i = -1; i <= count; i++) {
            due("line " + i, x.line(i), y.line(i));
        }
    }

    private void whole(int p, boolean swaps) {
        int from = some(y.length());
        int to = some(y.length());
        int limit = some(random.nextBoolean() ? 6 : 100);
        due("whole " + p + " " + from + " " + to + swaps + limit,
            x.whole(p, from, to, swaps, limit), y.whole(p, from, to, swaps, limit));
    }

    private void apart(boolean swaps) {
        int from = some(y.length());
        int to = some(y.length());
        int otherFrom = some(y.length());
        int otherTo = some(y.length());
        int limit = some(random.nextBoolean() ? 6 : 100);
        due("apart " + from + " " + to + " " + otherFrom + " " + otherTo + swaps + limit,
            x.apart(from, to, otherFrom, otherTo, swaps, limit), y.apart(from, to, otherFrom, otherTo, swaps, limit));
    }

    private void looks(int p) {
        int i = some(6);
        int b = some(126);
        due("has " + p + " " + i + " " + b, x.has(p, i, b), y.has(p, i, b));
        due("byteAt " + i, x.byteAt(i), y.byteAt(i));
        due("line " + i, x.line(i), y.line(i));
        due("length", x.length(), y.length());
    }

    private void compareTexts() {
        Check.dueText("the text", x, y.text());
    }

    /** A text and patterns of the greatest lengths, some patterns being parts of the text with some edits. */
    private void largeRun() {
        String letters = alphabet.contains("-") ? "abx" : alphabet;
        while (y.length() < 1500) {
            type(word(letters, Math.min(400, 1500 - y.length())));
            due("insert", x.insert(y.length()), y.insert(y.length()));
        }
        for (int p = 0; p < 3; p++) {
            int from = random.nextInt(1300);
            StringBuilder part = new StringBuilder(y.text().substring(from, from + (p == 0 ? 190 : 30)));
            for (int edit = 0; edit < 8; edit++) {
                int at = random.nextInt(part.length() - 1);
                part.insert(at, part.charAt(at + 1)).deleteCharAt(random.nextInt(part.length()));
            }
            type(part.toString());
            due("pattern " + p, x.pattern(p), y.pattern(p));
        }
        for (int p = 0; p < 3; p++) {
            boolean swaps = p != 1;
            due("nearest " + p, x.nearest(p, swaps, 1), y.nearest(p, swaps, 1));
            due("lines " + p, x.lines(p, 9, swaps), y.lines(p, 9, swaps));
            due("whole " + p, x.whole(p, 0, 1500, swaps, 2000), y.whole(p, 0, 1500, swaps, 2000));
            due("find " + p, x.find(p, 8, swaps), y.find(p, 8, swaps));
            compareHits(2);
        }
        for (int turn = 0; turn < 6; turn++) {
            int from = random.nextInt(700);
            int other = random.nextInt(1000);
            int limit = turn < 3 ? 2000 : 100 + random.nextInt(500);
            due("apart " + from + " " + other, x.apart(from, 1500 - from, other, 1500, turn % 2 == 0, limit),
                y.apart(from, 1500 - from, other, 1500, turn % 2 == 0, limit));
        }
        type("ba");
        due("replace", x.replace(1, 9, true), y.replace(1, 9, true));
        compareTexts();
    }
}
