/** Promises 1 to 5: a new object, type, pattern, place, has. */
public final class PatternTest {
    private static final int NONE = EditFinder.NONE;
    private static final int BAD = EditFinder.BAD;
    private static final int REFUSED = EditFinder.REFUSED;

    public static void main(String[] args) {
        newObject();
        typing();
        typingToTheEnd();
        singleSets();
        itemsOfSets();
        rowsOfSets();
        faults();
        tooManyElements();
        patternCalls();
        hasCalls();
        Check.finish("PatternTest");
    }

    private static void newObject() {
        EditFinder x = new EditFinder();
        Check.due("length", x.length(), 0);
        Check.due("byteAt(0)", x.byteAt(0), NONE);
        Check.due("place", x.place(), NONE);
        Check.due("line(0)", x.line(0), NONE);
        Check.due("undo", x.undo(), NONE);
        Check.due("hit(0, 0)", x.hit(0, 0), BAD);
        Check.due("step(0, 0)", x.step(0, 0), BAD);
        Check.due("which(0, 0)", x.which(0, 0, true), NONE);
        Check.due("apart", x.apart(0, 0, 0, 0, true, 0), 0);
        for (int p = 0; p < 8; p++) {
            Check.due("has", x.has(p, 0, 'a'), BAD);
            Check.due("find", x.find(p, 0, false), BAD);
            Check.due("nearest", x.nearest(p, false, 0), BAD);
            Check.due("lines", x.lines(p, 0, false), BAD);
            Check.due("replace", x.replace(p, 0, false), BAD);
            Check.due("whole", x.whole(p, 0, 0, false, 0), BAD);
        }
        Check.due("undo behind calls that were BAD", x.undo(), NONE);
        Check.due("an empty tape", x.type('a', 1), 1);
    }

    private static void typing() {
        EditFinder x = new EditFinder();
        Check.due("type ab", x.type(Check.word("ab"), 2), 2);
        Check.due("only the lowest bytes count", x.type(0xFFFFFFFFFFFFFF63L, 1), 3);
        Check.due("eight bytes", x.type(Check.word("defghijk"), 8), 11);
        Check.due("insert", x.insert(0), 11);
        Check.dueText("the lowest byte first", x, "abcdefghijk");
        Check.due("n = 0", x.type('a', 0), BAD);
        Check.due("n = 9", x.type(Check.word("aaaaaaaa"), 9), BAD);
        Check.due("n = -1", x.type('a', -1), BAD);
        Check.due("n least", x.type('a', Integer.MIN_VALUE), BAD);
        Check.due("n greatest", x.type('a', Integer.MAX_VALUE), BAD);
        Check.due("zero bytes behind the first", x.type('a', 2), BAD);
        Check.due("no byte below", x.type(Check.word("\u001faa"), 3), BAD);
        Check.due("no byte at the top", x.type(0x8061616161616161L, 8), BAD);
        Check.due("no byte -1", x.type(-1L, 8), BAD);
        Check.due("nothing was typed", x.insert(11), 11);
        for (int b = 0; b < 256; b++) {
            boolean isByte = b == 10 || b >= 32 && b <= 126;
            EditFinder y = new EditFinder();
            Check.due("type " + b, y.type(b, 1), isByte ? 1 : BAD);
            Check.due("type a and " + b, y.type(b << 8 | 'a', 2), isByte ? 3 : BAD);
        }
    }

    private static void typingToTheEnd() {
        EditFinder x = new EditFinder();
        Check.type(x, "a".repeat(392));
        Check.due("400 bytes", x.type(Check.word("abcdefgh"), 8), 400);
        Check.due("a byte more", x.type('a', 1), REFUSED);
        Check.due("BAD goes before REFUSED", x.type(0, 1), BAD);
        Check.due("the tape stays", x.insert(0), 400);
        Check.type(x, "a".repeat(395));
        Check.due("six more", x.type(Check.word("abcdef"), 6), REFUSED);
        Check.due("five more", x.type(Check.word("abcde"), 5), 400);
    }

    private static void singleSets() {
        for (int b = 10; b < 127; b = b == 10 ? 32 : b + 1) {
            String one = String.valueOf((char) b);
            if ("[]\\.".indexOf(b) < 0) {
                Check.dueSet(one, one);
            }
            Check.dueSet("\\" + one, one);
        }
        Check.dueSet(".", Check.allBytesBut("\n"));
    }

    private static void itemsOfSets() {
        Check.dueSet("[a]", "a");
        Check.dueSet("[abca]", "abc");
        Check.dueSet("[a-e]", "abcde");
        Check.dueSet("[a-a]", "a");
        Check.dueSet("[b-a]", "");
        Check.dueSet("[b-ax]", "x");
        Check.dueSet("[^b-a]", Check.allBytesBut(""));
        Check.dueSet("[^a-c]", Check.allBytesBut("abc"));
        Check.dueSet("[^\n]", Check.allBytesBut("\n"));
        Check.dueSet("[^\na-b]", Check.allBytesBut("\nab"));
        Check.dueSet("[\n-!]", "\n !");
        Check.dueSet("[\n-\n]", "\n");
        Check.dueSet("[ -~]", Check.allBytesBut("\n"));
        Check.dueSet("[=-C]", "=>?@ABC");
        Check.dueSet("[-]", "-");
        Check.dueSet("[--]", "-");
        Check.dueSet("[---]", "-");
        Check.dueSet("[^-]", Check.allBytesBut("-"));
        Check.dueSet("[-a]", "-a");
        Check.dueSet("[a-]", "-a");
        Check.dueSet("[a-c-]", "abc-");
        Check.dueSet("[a-c-e]", "abc-e");
        Check.dueSet("[+--]", "+,-");
        Check.dueSet("[--/]", "-./");
        Check.dueSet("[a--]", "");
        Check.dueSet("[a^]", "a^");
        Check.dueSet("[^^]", Check.allBytesBut("^"));
        Check.dueSet("[\\^a]", "^a");
        Check.dueSet("[[]", "[");
        Check.dueSet("[.]", ".");
        Check.dueSet("[\\]]", "]");
        Check.dueSet("[\\\\]", "\\");
        Check.dueSet("[a\\-c]", "a-c");
        Check.dueSet("[\\--/]", "-./");
        Check.dueSet("[Z-\\]]", "Z[\\]");
        Check.dueSet("[\\[-\\]]", "[\\]");
        Check.dueSet("[\\a-\\c]", "abc");
        Check.dueSet("[a-\\-]", "");
        Check.dueSet("[[-^]", "[\\]^");
    }

    private static void rowsOfSets() {
        Check.dueSets("a.\\.[xy]-^", "a", Check.allBytesBut("\n"), ".", "xy", "-", "^");
    }

    private static void faults() {
        Check.dueFault("", 3, 0);
        Check.dueFault("]", 1, 0);
        Check.dueFault("ab]", 1, 2);
        Check.dueFault("[a]]", 1, 3);
        Check.dueFault("[]", 2, 1);
        Check.dueFault("[]a]", 2, 1);
        Check.dueFault("[^]", 2, 2);
        Check.dueFault("[^]a]", 2, 2);
        Check.dueFault("a[]]", 2, 2);
        Check.dueFault("[", 3, 1);
        Check.dueFault("[^", 3, 2);
        Check.dueFault("[a", 3, 2);
        Check.dueFault("[a-", 3, 3);
        Check.dueFault("[-", 3, 2);
        Check.dueFault("[a-b", 3, 4);
        Check.dueFault("[a\\]", 3, 4);
        Check.dueFault("[a-\\]", 3, 5);
        Check.dueFault("[\\", 3, 2);
        Check.dueFault("\\", 3, 1);
        Check.dueFault("abc\\", 3, 4);
        Check.dueFault("\\\\\\", 3, 3);
        Check.dueFault("a]b[", 1, 1);
        Check.dueFault("[][", 2, 1);
    }

    private static void tooManyElements() {
        String full = "a".repeat(200);
        Check.dueFault(full + "a", 4, 200);
        Check.dueFault(full + ".", 4, 200);
        Check.dueFault(full + "]", 1, 200);
        Check.dueFault(full + "[]", 4, 200);
        Check.dueFault(full + "[", 4, 200);
        Check.dueFault(full + "\\", 4, 200);
        Check.dueFault("\\]".repeat(199) + "ab", 4, 399);
        Check.dueFault("a]" + full, 1, 1);
        EditFinder x = new EditFinder();
        Check.due("200 elements of 2 bytes", Check.pattern(x, 7, "\\]".repeat(200)), 200);
        Check.due("the last one", x.has(7, 199, ']'), 1);
        Check.due("none behind", x.has(7, 200, ']'), BAD);
        Check.due("one element of 400 bytes", Check.pattern(x, 7, "[" + "ab".repeat(199) + "]"), 1);
    }

    private static void patternCalls() {
        EditFinder x = new EditFinder();
        Check.type(x, "ab");
        Check.due("pattern(-1)", x.pattern(-1), BAD);
        Check.due("pattern(8)", x.pattern(8), BAD);
        Check.due("pattern(least)", x.pattern(Integer.MIN_VALUE), BAD);
        Check.due("pattern(greatest)", x.pattern(Integer.MAX_VALUE), BAD);
        Check.due("place behind BAD alone", x.place(), NONE);
        Check.due("the tape stays if BAD", x.pattern(7), 2);
        Check.due("the tape is empty then", x.pattern(7), -13);
        Check.due("place", x.place(), 0);
        Check.due("BAD", x.pattern(9), BAD);
        Check.due("place stays if BAD", x.place(), 0);
        Check.due("a fault", Check.pattern(x, 7, "xyz]"), -11);
        Check.due("the tape is empty behind a fault", x.type('q', 1), 1);
        Check.due("the pattern stays behind a fault", x.has(7, 1, 'b'), 1);
        Check.due("and its length", x.has(7, 2, 'b'), BAD);
        Check.due("anew", x.pattern(7), 1);
        Check.due("place without a fault", x.place(), NONE);
        Check.due("the new one", x.has(7, 0, 'q'), 1);
        Check.due("nothing of the old one", x.has(7, 0, 'a'), 0);
        Check.due("it is shorter", x.has(7, 1, 'b'), BAD);
        for (int p = 0; p < 8; p++) {
            Check.due("pattern " + p, Check.pattern(x, p, "" + p), 1);
        }
        for (int p = 0; p < 8; p++) {
            Check.due("pattern " + p + " has its own", x.has(p, 0, '0' + p), 1);
        }
    }

    private static void hasCalls() {
        EditFinder x = new EditFinder();
        Check.pattern(x, 2, "ab");
        Check.due("has", x.has(2, 0, 'a'), 1);
        Check.due("has not", x.has(2, 1, 'a'), 0);
        Check.due("10", x.has(2, 1, 10), 0);
        Check.due("126", x.has(2, 1, 126), 0);
        int[][] bad = {
            {2, -1, 'a'}, {2, 2, 'a'}, {2, Integer.MAX_VALUE, 'a'}, {2, Integer.MIN_VALUE, 'a'},
            {2, 0, 9}, {2, 0, 11}, {2, 0, 31}, {2, 0, 127}, {2, 0, -1}, {2, 0, 'a' + 256}, {2, 0, Integer.MIN_VALUE},
            {1, 0, 'a'}, {3, 0, 'a'}, {-1, 0, 'a'}, {8, 0, 'a'}, {Integer.MAX_VALUE, 0, 'a'}, {Integer.MIN_VALUE, 0, 'a'},
        };
        for (int[] call : bad) {
            Check.due("has(" + call[0] + ", " + call[1] + ", " + call[2] + ")", x.has(call[0], call[1], call[2]), BAD);
        }
    }
}
