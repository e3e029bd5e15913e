import java.util.stream.IntStream;

/** Counts the answers that are not due, and types texts for the tests. */
final class Check {
    private static final int SHOWN = 40;
    private static final int MOST_PLACES = 64;
    private static int seen = 0;
    private static int wrong = 0;
    private static int sentences = 0;
    private static int seenBefore = 0;
    private static String sentence = "";

    private Check() {
    }

    static void due(String call, long got, long want) {
        seen++;
        if (got != want) {
            wrong++;
            if (wrong <= SHOWN) {
                System.out.println(sentence + call + " answered " + got + ", due is " + want);
            }
        }
    }

    /** What follows holds the class to this sentence of the document. */
    static void sentence(String words) {
        closeSentence();
        sentences++;
        seenBefore = seen;
        sentence = "'" + words + "': ";
    }

    private static void closeSentence() {
        if (sentences > 0 && seen == seenBefore) {
            due("tests of it", 0, 1);
        }
    }

    static void isTrue(String claim, boolean holds) {
        due(claim, holds ? 1 : 0, 1);
    }

    static boolean allDue() {
        return wrong == 0;
    }

    static void finish(String name) {
        closeSentence();
        String of = sentences > 0 ? " to " + sentences + " sentences" : "";
        System.out.println(name + ": " + seen + " answers" + of + ", " + wrong + " of them not as due");
        if (wrong != 0 || seen == 0) {
            System.exit(1);
        }
    }

    static long word(String bytes) {
        long w = 0;
        for (int i = bytes.length() - 1; i >= 0; i--) {
            w = w << 8 | bytes.charAt(i);
        }
        return w;
    }

    static void type(EditFinder x, String bytes) {
        for (int i = 0; i < bytes.length(); i += 8) {
            String part = bytes.substring(i, Math.min(bytes.length(), i + 8));
            if (x.type(word(part), part.length()) < 0) {
                due("typing " + bytes, 0, 1);
            }
        }
    }

    static int pattern(EditFinder x, int p, String told) {
        type(x, told);
        return x.pattern(p);
    }

    /** Puts bytes behind the text, however many. */
    static void append(EditFinder x, String bytes) {
        for (int i = 0; i < bytes.length(); i += 400) {
            type(x, bytes.substring(i, Math.min(bytes.length(), i + 400)));
            x.insert(x.length());
        }
    }

    static EditFinder withText(String bytes) {
        EditFinder x = new EditFinder();
        append(x, bytes);
        return x;
    }

    /** A finder with this text and the patterns told, from 0 on. */
    static EditFinder made(String text, String... told) {
        EditFinder x = withText(text);
        for (int p = 0; p < told.length; p++) {
            isTrue("a pattern " + told[p], pattern(x, p, told[p]) > 0);
        }
        return x;
    }

    /**
     * Of a long text only places at both ends and next to a change of bytes are looked at, since an object
     * promises nothing beyond its 512th call.
     */
    static void dueText(String call, EditFinder x, String want) {
        due(call + ": length", x.length(), want.length());
        int[] places = placesToLookAt(want);
        for (int n = 0; n < places.length; n++) {
            if (n < MOST_PLACES || n >= places.length - MOST_PLACES) {
                due(call + ": byte " + places[n], x.byteAt(places[n]), want.charAt(places[n]));
            }
        }
    }

    private static int[] placesToLookAt(String want) {
        int last = want.length() - 1;
        return IntStream.rangeClosed(0, last)
            .filter(i -> last < MOST_PLACES || i == 0 || i == last
                || want.charAt(i) != want.charAt(i - 1) || want.charAt(i) != want.charAt(i + 1))
            .toArray();
    }

    static void dueFault(String told, int fault, int place) {
        EditFinder x = new EditFinder();
        due("pattern " + told, pattern(x, 0, told), -10 - fault);
        due("place of " + told, x.place(), place);
        due("no pattern after " + told, x.has(0, 0, 'a'), EditFinder.BAD);
    }

    /** The pattern is one set that has these bytes and no other ones. */
    static void dueSet(String told, String bytes) {
        dueSets(told, bytes);
    }

    /** The pattern is a row of sets, each of which has these bytes and no other ones. */
    static void dueSets(String told, String... sets) {
        due("sets of " + told, pattern(new EditFinder(), 3, told), sets.length);
        for (int i = 0; i < sets.length; i++) {
            EditFinder x = new EditFinder();
            pattern(x, 3, told);
            due("place of " + told, x.place(), EditFinder.NONE);
            for (int b = 10; b < 127; b = b == 10 ? 32 : b + 1) {
                due(told + " set " + i + " has " + b, x.has(3, i, b), sets[i].indexOf(b) >= 0 ? 1 : 0);
            }
        }
    }

    static String allBytesBut(String none) {
        StringBuilder all = new StringBuilder();
        for (int b = 10; b < 127; b = b == 10 ? 32 : b + 1) {
            if (none.indexOf(b) < 0) {
                all.append((char) b);
            }
        }
        return all.toString();
    }

    static void dueHit(EditFinder x, int i, int e, int distance, int beginning, String steps) {
        String call = "hit " + i + " ";
        due(call + "place", x.hit(i, 0), e);
        due(call + "distance", x.hit(i, 1), distance);
        due(call + "beginning", x.hit(i, 2), beginning);
        due(call + "steps", x.hit(i, 3), steps.length());
        for (int j = 0; j < steps.length(); j++) {
            due(call + "step " + j, x.step(i, j), steps.charAt(j) - '0');
        }
        due(call + "step behind the last", x.step(i, steps.length()), EditFinder.NONE);
    }

    static void dueLines(EditFinder x, int k, boolean swaps, int... numbers) {
        due("lines", x.lines(0, k, swaps), numbers.length);
        for (int i = 0; i < numbers.length; i++) {
            due("line " + i, x.line(i), numbers[i]);
        }
        due("line behind the last", x.line(numbers.length), EditFinder.NONE);
    }

    static void dueReplaced(String text, String told, int k, boolean swaps, String by, int count, String due) {
        EditFinder x = made(text, told);
        type(x, by);
        String call = "replace " + told + " in " + text;
        due(call, x.replace(0, k, swaps), count);
        due(call + " length", x.length(), due.length());
        dueText(call, x, due);
        due(call + " empties the tape", x.type('a', 1), 1);
        due(call + " can be undone", x.undo(), text.length());
        dueText(call + " undone", x, text);
    }
}
