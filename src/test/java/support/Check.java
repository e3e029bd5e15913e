/** Counts the answers that are not due, and types texts for the tests. */
final class Check {
    private static final int SHOWN = 40;
    private static int seen = 0;
    private static int wrong = 0;

    private Check() {
    }

    static void due(String call, long got, long want) {
        seen++;
        if (got != want) {
            wrong++;
            if (wrong <= SHOWN) {
                System.out.println(call + " answered " + got + ", due is " + want);
            }
        }
    }

    static void isTrue(String claim, boolean holds) {
        due(claim, holds ? 1 : 0, 1);
    }

    static boolean allDue() {
        return wrong == 0;
    }

    static void finish(String name) {
        System.out.println(name + ": " + seen + " answers, " + wrong + " of them not as due");
        if (wrong != 0 || seen == 0) {
            System.exit(1);
        }
    }

    static long word(String bytes) {
        long w = 0;
        for (int i = bytes.length() - 1; i >= 0; i--) {
            w = w << 8 | bytes.charAt(i);
        }
        return w;
    }

    static void type(EditFinder x, String bytes) {
        for (int i = 0; i < bytes.length(); i += 8) {
            String part = bytes.substring(i, Math.min(bytes.length(), i + 8));
            if (x.type(word(part), part.length()) < 0) {
                due("typing " + bytes, 0, 1);
            }
        }
    }

    static int pattern(EditFinder x, int p, String told) {
        type(x, told);
        return x.pattern(p);
    }

    /** Puts bytes behind the text, however many. */
    static void append(EditFinder x, String bytes) {
        for (int i = 0; i < bytes.length(); i += 400) {
            type(x, bytes.substring(i, Math.min(bytes.length(), i + 400)));
            x.insert(x.length());
        }
    }

    static EditFinder withText(String bytes) {
        EditFinder x = new EditFinder();
        append(x, bytes);
        return x;
    }

    static void dueText(String call, EditFinder x, String want) {
        StringBuilder got = new StringBuilder();
        for (int i = 0; i < x.length(); i++) {
            got.append((char) x.byteAt(i));
        }
        isTrue(call + " leaves the text " + got + ", due is " + want, got.toString().equals(want));
    }

    static void dueFault(String told, int fault, int place) {
        EditFinder x = new EditFinder();
        due("pattern " + told, pattern(x, 0, told), -10 - fault);
        due("place of " + told, x.place(), place);
        due("no pattern after " + told, x.has(0, 0, 'a'), EditFinder.BAD);
    }

    /** The pattern is one set that has these bytes and no other ones. */
    static void dueSet(String told, String bytes) {
        EditFinder x = new EditFinder();
        due("pattern " + told, pattern(x, 3, told), 1);
        due("place of " + told, x.place(), EditFinder.NONE);
        for (int b = 10; b < 127; b = b == 10 ? 32 : b + 1) {
            due(told + " has " + b, x.has(3, 0, b), bytes.indexOf(b) >= 0 ? 1 : 0);
        }
    }

    static String allBytesBut(String none) {
        StringBuilder all = new StringBuilder();
        for (int b = 10; b < 127; b = b == 10 ? 32 : b + 1) {
            if (none.indexOf(b) < 0) {
                all.append((char) b);
            }
        }
        return all.toString();
    }

    static void dueHit(EditFinder x, int i, int e, int distance, int beginning, String steps) {
        String call = "hit " + i + " ";
        due(call + "place", x.hit(i, 0), e);
        due(call + "distance", x.hit(i, 1), distance);
        due(call + "beginning", x.hit(i, 2), beginning);
        due(call + "steps", x.hit(i, 3), steps.length());
        for (int j = 0; j < steps.length(); j++) {
            due(call + "step " + j, x.step(i, j), steps.charAt(j) - '0');
        }
        due(call + "step behind the last", x.step(i, steps.length()), EditFinder.NONE);
    }
}
