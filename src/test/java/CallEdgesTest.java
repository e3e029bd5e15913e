/** The boundary cases that the document names under 'Promise 1' to 'Promise 20', sentence by sentence. */
public final class CallEdgesTest {
    private static final int NONE = EditFinder.NONE;
    private static final int BAD = EditFinder.BAD;
    private static final int REFUSED = EditFinder.REFUSED;
    private static final int ABOVE = EditFinder.ABOVE;
    private static final int LEAST = Integer.MIN_VALUE;
    private static final int GREATEST = Integer.MAX_VALUE;

    public static void main(String[] args) {
        newObject();
        type();
        typeWrong();
        pattern();
        patternFault();
        place();
        has();
        insert();
        insertWrong();
        cut();
        undo();
        undoFive();
        undoWrapsRound();
        undoWithoutChange();
        byteAtAndLength();
        find();
        findStays();
        hit();
        step();
        nearest();
        lines();
        line();
        replace();
        replaceRefused();
        whole();
        which();
        apart();
        Check.finish("CallEdgesTest");
    }

    private static void newObject() {
        Check.sentence("1: An empty tape");
        Check.due("insert", new EditFinder().insert(0), 0);
        Check.due("pattern", new EditFinder().pattern(0), -13);
        Check.due("type", new EditFinder().type('a', 1), 1);

        Check.sentence("1: an empty text");
        EditFinder x = new EditFinder();
        Check.due("length", x.length(), 0);
        Check.due("byteAt", x.byteAt(0), NONE);
        Check.due("cut(0, 1)", x.cut(0, 1), BAD);
        Check.due("insert(1)", x.insert(1), BAD);
        Check.due("undo", x.undo(), NONE);
        Check.due("apart(0, 0, 0, 0)", x.apart(0, 0, 0, 0, false, 0), 0);
        Check.due("apart(0, 1, 0, 0)", x.apart(0, 1, 0, 0, false, 0), BAD);

        Check.sentence("1: no patterns");
        for (int p = 0; p < 8; p++) {
            Check.due("has", x.has(p, 0, 'a'), BAD);
            Check.due("whole", x.whole(p, 0, 0, false, 0), BAD);
        }
        Check.due("which", x.which(0, 0, false), NONE);
        Check.due("place", x.place(), NONE);

        Check.sentence("1: no hits");
        for (int i = -1; i <= 1; i++) {
            Check.due("hit", x.hit(i, 0), BAD);
            Check.due("step", x.step(i, 0), BAD);
            Check.due("line", x.line(i), NONE);
        }

        Check.sentence("1: of another object nothing is seen");
        EditFinder other = Check.made("ab\nab", "ab");
        other.find(0, 0, false);
        other.lines(0, 0, false);
        other.type('z', 1);
        x = new EditFinder();
        Check.due("length", x.length(), 0);
        Check.due("has", x.has(0, 0, 'a'), BAD);
        Check.due("hit", x.hit(0, 0), BAD);
        Check.due("line", x.line(0), NONE);
        Check.due("type", x.type('a', 1), 1);
        Check.due("the other one's tape", other.insert(0), 6);
    }

    private static void type() {
        Check.sentence("2: The n (1 .. 8) lowest bytes of w, the lowest first");
        EditFinder x = new EditFinder();
        String due = "";
        for (int n = 1; n <= 8; n++) {
            String bytes = "12345678".substring(0, n);
            // what stands above the n lowest bytes is not looked at
            long w = n < 8 ? Check.word(bytes) | -1L << 8 * n : Check.word(bytes);
            due += bytes;
            Check.due("type " + n, x.type(w, n), due.length());
        }
        Check.due("insert", x.insert(0), 36);
        Check.dueText("the lowest first", x, due);
        x = new EditFinder();
        Check.due("w below 0", x.type(0xFFFFFFFF80000061L, 1), 1);
        Check.due("zeros above", x.type(0x0000000000000062L, 1), 2);
        Check.due("126 at the top", x.type(0x7E7E7E7E7E7E7E7EL, 8), 10);
        Check.due("10 at the top", x.type(0x0A0A0A0A0A0A0A0AL, 8), 18);
        Check.due("insert", x.insert(0), 18);
        Check.dueText("insert", x, "ab" + "~".repeat(8) + "\n".repeat(8));

        Check.sentence("2: come behind the TAPE: how many it has");
        x = new EditFinder();
        for (int i = 1; i <= 50; i++) {
            Check.due("type", x.type(Check.word("abcdefgh"), 8), 8 * i);
        }
        Check.due("insert", x.insert(0), 400);
        Check.dueText("insert", x, "abcdefgh".repeat(50));

        Check.sentence("2: n is not as said");
        x = new EditFinder();
        for (int n : new int[] {LEAST, -8, -1, 0, 9, 16, GREATEST}) {
            Check.due("type " + n, x.type(Check.word("aaaaaaaa"), n), BAD);
        }
        Check.due("nothing was typed", x.insert(0), 0);
    }

    private static void typeWrong() {
        Check.sentence("2: BAD: also if one is no byte");
        EditFinder x = new EditFinder();
        for (int at = 0; at < 8; at++) {
            for (long no : new long[] {0, 9, 11, 31, 127, 128, 255}) {
                long hole = ~(255L << 8 * at);
                long w = Check.word("aaaaaaaa") & hole | no << 8 * at;
                Check.due("byte " + at + " is " + no, x.type(w, 8), BAD);
                Check.due("byte " + at + " is the last and " + no, x.type(w, at + 1), BAD);
            }
        }
        Check.due("nothing was typed", x.type('b', 1), 1);

        Check.sentence("2: REFUSED: it would have more than 400");
        for (int n = 1; n <= 8; n++) {
            x = new EditFinder();
            Check.type(x, "a".repeat(400 - n));
            if (n < 8) {
                Check.due("one too many", x.type(Check.word("bbbbbbbb"), n + 1), REFUSED);
            }
            Check.due("as many as fit", x.type(Check.word("bbbbbbbb"), n), 400);
            Check.due("a 401st", x.type('c', 1), REFUSED);
            Check.due("the tape is as it was", x.insert(0), 400);
            Check.dueText("the tape", x, "a".repeat(400 - n) + "b".repeat(n));
        }
        x = new EditFinder();
        Check.type(x, "a".repeat(400));
        Check.due("no byte, and too many", x.type(0, 1), BAD);
        Check.due("n = 0 on a full tape", x.type('a', 0), BAD);
        Check.due("n = 9 on a full tape", x.type('a', 9), BAD);
        Check.due("eight too many", x.type(Check.word("bbbbbbbb"), 8), REFUSED);
    }

    private static void pattern() {
        Check.sentence("3: The TAPE, which is empty then, is PATTERN p: how many sets");
        EditFinder x = new EditFinder();
        for (int p = 0; p < 8; p++) {
            Check.due("pattern " + p, Check.pattern(x, p, "ab".repeat(p + 1)), 2 * p + 2);
            Check.due("the tape is empty", x.type('q', 1), 1);
            Check.due("the next pattern", x.pattern(p), 1);
        }
        Check.due("longer", Check.pattern(x, 2, "abc"), 3);
        Check.due("shorter", Check.pattern(x, 2, "d"), 1);
        Check.due("of the longer one nothing stays", x.has(2, 1, 'b'), BAD);
        Check.due("nor in set 0", x.has(2, 0, 'a'), 0);
        Check.due("the neighbours stay", x.has(1, 0, 'q') + x.has(3, 0, 'q'), 2);
        Check.due("the text is as it was", x.length(), 0);
        Check.due("one set of 400 bytes", Check.pattern(x, 2, "[" + "a".repeat(398) + "]"), 1);

        Check.sentence("3: BAD");
        Check.type(x, "ab]");
        for (int p : new int[] {LEAST, -1, 8, 9, GREATEST}) {
            Check.due("pattern " + p, x.pattern(p), BAD);
        }
        Check.due("the tape stays if BAD", x.insert(0), 3);
    }

    private static void patternFault() {
        Check.sentence("3: -10 less its FAULT: the pattern stays as it was");
        String[] faulty = {"q]", "q[]", "q[", "q".repeat(201)};
        EditFinder x = Check.made("", "ab", "c");
        for (int fault = 1; fault <= 4; fault++) {
            Check.due("fault " + fault, Check.pattern(x, 0, faulty[fault - 1]), -10 - fault);
            Check.due("the first set stays", x.has(0, 0, 'a'), 1);
            Check.due("no set of the faulty one", x.has(0, 0, 'q'), 0);
            Check.due("the second set stays", x.has(0, 1, 'b'), 1);
            Check.due("there is no third", x.has(0, 2, 'q'), BAD);
            Check.due("the other pattern stays", x.has(1, 0, 'c'), 1);
            Check.due("none where none was", Check.pattern(x, 5, faulty[fault - 1]), -10 - fault);
            Check.due("none where none was", x.has(5, 0, 'q'), BAD);
        }
        Check.due("the tape is empty behind a fault", x.pattern(0), -13);
        Check.due("and the pattern stays", x.has(0, 1, 'b'), 1);
    }

    private static void place() {
        Check.sentence("4: The place of the FAULT of the latest pattern() that was not BAD");
        EditFinder x = new EditFinder();
        Check.pattern(x, 0, "abc]");
        Check.due("place", x.place(), 3);
        Check.due("place again", x.place(), 3);
        x.pattern(8);
        x.pattern(-1);
        Check.due("behind BAD", x.place(), 3);
        Check.type(x, "q");
        x.insert(0);
        x.cut(0, 1);
        x.undo();
        x.find(0, 0, false);
        Check.due("behind other calls", x.place(), 3);
        Check.pattern(x, 1, "[a");
        Check.due("of the latest one", x.place(), 2);
        x.pattern(1);
        Check.due("of an empty tape", x.place(), 0);
        Check.pattern(x, 1, "[" + "a".repeat(399));
        Check.due("the tape's length", x.place(), 400);

        Check.sentence("4: NONE");
        Check.due("before all patterns", new EditFinder().place(), NONE);
        Check.pattern(x, 1, "a");
        Check.due("behind one without a fault", x.place(), NONE);
        x.pattern(8);
        Check.due("behind BAD", x.place(), NONE);
        x = new EditFinder();
        x.pattern(8);
        Check.due("behind BAD alone", x.place(), NONE);
    }

    private static void has() {
        Check.sentence("5: Whether set i of a pattern has a byte (1, 0)");
        EditFinder x = Check.made("", "[\n ~]", "[^\n ~]", "a".repeat(199) + "b");
        for (int b : new int[] {10, 32, 126}) {
            Check.due("has " + b, x.has(0, 0, b), 1);
            Check.due("has not " + b, x.has(1, 0, b), 0);
        }
        for (int b : new int[] {33, 63, 64, 65, 125}) {
            Check.due("has not " + b, x.has(0, 0, b), 0);
            Check.due("has " + b, x.has(1, 0, b), 1);
        }
        Check.due("the first set", x.has(2, 0, 'a'), 1);
        Check.due("the last set but one", x.has(2, 198, 'b'), 0);
        Check.due("the last set", x.has(2, 199, 'b'), 1);

        Check.sentence("5: BAD: also no such set or byte");
        for (int i : new int[] {LEAST, -1, 1, 2, 199, 200, GREATEST}) {
            Check.due("set " + i + " of one", x.has(0, i, 'a'), BAD);
        }
        for (int i : new int[] {-1, 200, 201}) {
            Check.due("set " + i + " of 200", x.has(2, i, 'a'), BAD);
        }
        for (int b : new int[] {LEAST, -246, -1, 0, 9, 11, 31, 127, 128, 138, 256 + 97, GREATEST}) {
            Check.due("byte " + b, x.has(1, 0, b), BAD);
        }
    }

    private static void insert() {
        Check.sentence("6: comes into the TEXT before byte at (at its length: behind it): how long it is");
        EditFinder x = new EditFinder();
        Check.type(x, "bd");
        Check.due("into an empty text", x.insert(0), 2);
        Check.type(x, "a");
        Check.due("before byte 0", x.insert(0), 3);
        Check.type(x, "c");
        Check.due("before the last byte", x.insert(2), 4);
        Check.type(x, "e");
        Check.due("behind the last byte", x.insert(4), 5);
        Check.dueText("insert", x, "abcde");

        Check.sentence("6: The TAPE, which is empty then");
        Check.due("the tape is empty", x.type('f', 1), 1);
        Check.due("insert", x.insert(5), 6);
        Check.due("an empty tape", x.insert(3), 6);
        Check.due("an empty tape at the end", x.insert(6), 6);
        Check.dueText("an empty tape", x, "abcdef");
        Check.due("400 bytes at once", Check.withText("a".repeat(400)).length(), 400);
    }

    private static void insertWrong() {
        Check.sentence("6: BAD");
        EditFinder x = Check.withText("abc");
        Check.type(x, "xy");
        for (int at : new int[] {LEAST, -1, 4, 5, 1500, GREATEST}) {
            Check.due("insert " + at, x.insert(at), BAD);
        }
        Check.dueText("BAD", x, "abc");
        Check.due("the tape is as it was", x.insert(3), 5);
        Check.dueText("the tape is as it was", x, "abcxy");

        Check.sentence("6: REFUSED: it would have more than 1500 (the tape stays)");
        x = Check.withText("a".repeat(1101));
        Check.type(x, "b".repeat(400));
        Check.due("1501", x.insert(1101), REFUSED);
        Check.due("1501", x.insert(0), REFUSED);
        Check.due("length", x.length(), 1101);
        Check.due("the last byte", x.byteAt(1100), 'a');
        Check.due("not as said, and too long", x.insert(1102), BAD);
        Check.due("one less", x.cut(0, 1), 1100);
        Check.due("1500", x.insert(1100), 1500);
        Check.due("the last byte", x.byteAt(1499), 'b');
        Check.due("the tape is empty then", x.type('c', 1), 1);
        Check.due("1501", x.insert(700), REFUSED);
        Check.due("the tape stays", x.type('d', 1), 2);
        x.cut(0, 2);
        Check.due("1500 in the middle", x.insert(700), 1500);
        Check.due("c", x.byteAt(700), 'c');
        Check.due("d", x.byteAt(701), 'd');
        Check.due("behind it", x.byteAt(1499), 'b');
        Check.due("an empty tape and a full text", x.insert(1500), 1500);
    }

    private static void cut() {
        Check.sentence("7: Bytes from .. to - 1 of the TEXT go: how long it is");
        EditFinder x = Check.withText("abcdef");
        Check.due("no byte", x.cut(0, 0), 6);
        Check.due("no byte at the end", x.cut(6, 6), 6);
        Check.due("the first byte", x.cut(0, 1), 5);
        Check.due("the last byte", x.cut(4, 5), 4);
        Check.due("in the middle", x.cut(1, 3), 2);
        Check.dueText("cut", x, "be");
        Check.due("all", x.cut(0, 2), 0);
        Check.due("nothing of nothing", x.cut(0, 0), 0);
        x = Check.withText("a".repeat(1500));
        Check.due("all of 1500", x.cut(0, 1500), 0);

        Check.sentence("7: BAD");
        x = Check.withText("abc");
        int[][] parts = {{-1, 1}, {2, 1}, {3, 2}, {0, 4}, {3, 4}, {4, 4}, {LEAST, 3}, {0, GREATEST}, {GREATEST, LEAST}};
        for (int[] part : parts) {
            Check.due("cut " + part[0] + " " + part[1], x.cut(part[0], part[1]), BAD);
        }
        Check.dueText("BAD", x, "abc");
    }

    private static void undo() {
        Check.sentence("8: The TEXT is as it was before the latest insert(), cut() or replace()");
        EditFinder x = Check.made("abcabc", "b");
        Check.type(x, "xyz");
        x.insert(6);
        x.cut(0, 2);
        Check.type(x, "--");
        Check.due("replace", x.replace(0, 0, false), 1);
        Check.dueText("replace", x, "ca--cxyz");
        Check.due("undo of the replace", x.undo(), 7);
        Check.dueText("undo of the replace", x, "cabcxyz");
        Check.due("undo of the cut", x.undo(), 9);
        Check.dueText("undo of the cut", x, "abcabcxyz");
        Check.due("undo of the insert", x.undo(), 6);
        Check.dueText("undo of the insert", x, "abcabc");

        Check.sentence("8: how long it is; NONE: there is none");
        Check.due("undo of the first insert", x.undo(), 0);
        Check.due("there is none", x.undo(), NONE);
        Check.due("still none", x.undo(), NONE);
        Check.due("none at first", new EditFinder().undo(), NONE);

        Check.sentence("8: that was not BAD or REFUSED");
        x = Check.made("a".repeat(1490), "a");
        Check.due("the latest cut", x.cut(0, 90), 1400);
        Check.type(x, "b".repeat(101));
        Check.due("insert", x.insert(0), REFUSED);
        Check.due("insert", x.insert(-1), BAD);
        Check.due("cut", x.cut(1, 0), BAD);
        Check.due("replace", x.replace(0, 0, false), REFUSED);
        Check.due("replace", x.replace(1, 0, false), BAD);
        Check.due("replace", x.replace(0, 201, false), BAD);
        Check.due("undo of the cut", x.undo(), 1490);
        Check.due("the tape is not undone", x.type('c', 1), 102);

        Check.sentence("8: and is not undone");
        x = Check.withText("a");
        Check.append(x, "b");
        Check.append(x, "c");
        Check.due("undo", x.undo(), 2);
        Check.append(x, "d");
        Check.dueText("anew", x, "abd");
        Check.due("undo of d", x.undo(), 2);
        Check.due("c is undone already", x.undo(), 1);
        Check.due("undo of a", x.undo(), 0);
        Check.due("none", x.undo(), NONE);
    }

    private static void undoFive() {
        Check.sentence("8: of five at most");
        for (int changes = 4; changes <= 11; changes++) {
            EditFinder x = new EditFinder();
            String text = "";
            for (int n = 0; n < changes; n++) {
                Check.type(x, "" + (char) ('a' + n));
                x.insert(n);
                text += (char) ('a' + n);
            }
            int known = Math.min(changes, 5);
            for (int n = 1; n <= known; n++) {
                Check.due("undo " + n + " of " + changes, x.undo(), changes - n);
                Check.dueText("undo", x, text.substring(0, changes - n));
            }
            Check.due("no more than five of " + changes, x.undo(), NONE);
            Check.dueText("none changes nothing", x, text.substring(0, changes - known));
        }
        Check.sentence("8: five at most, each of them 1500 long");
        EditFinder x = Check.withText("a".repeat(1500));
        for (int n = 0; n < 5; n++) {
            Check.due("cut", x.cut(n, n), 1500);
        }
        Check.due("all", x.cut(0, 1500), 0);
        for (int n = 0; n < 5; n++) {
            Check.due("undo", x.undo(), 1500);
            Check.due("its last byte", x.byteAt(1499), 'a');
        }
        Check.due("none", x.undo(), NONE);
    }

    private static void undoWrapsRound() {
        Check.sentence("8: latest, not undone, of five: changes and undos by turns");
        EditFinder x = new EditFinder();
        String text = "";
        for (int round = 0; round < 4; round++) {
            for (int n = 0; n < 3; n++) {
                Check.type(x, "" + (char) ('a' + text.length()));
                x.insert(text.length());
                text += (char) ('a' + text.length());
            }
            text = text.substring(0, text.length() - 1);
            Check.due("undo", x.undo(), text.length());
            Check.dueText("undo", x, text);
        }
        // of the five before the last undo four are left
        for (int n = 0; n < 4; n++) {
            text = text.substring(0, text.length() - 1);
            Check.due("undo", x.undo(), text.length());
            Check.dueText("undo", x, text);
        }
        Check.due("none", x.undo(), NONE);
        Check.append(x, "z");
        Check.due("one again", x.undo(), text.length());
        Check.due("none again", x.undo(), NONE);
    }

    private static void undoWithoutChange() {
        Check.sentence("8: (also if that changed nothing)");
        EditFinder x = Check.made("abc", "q");
        Check.due("cut", x.cut(0, 1), 2);
        Check.due("insert of nothing", x.insert(1), 2);
        Check.due("cut of nothing", x.cut(2, 2), 2);
        Check.due("replace of nothing", x.replace(0, 0, false), 0);
        for (int n = 0; n < 3; n++) {
            Check.due("undo of nothing", x.undo(), 2);
            Check.dueText("undo of nothing", x, "bc");
        }
        Check.due("undo of the cut", x.undo(), 3);
        Check.dueText("undo of the cut", x, "abc");
        for (int n = 0; n < 5; n++) {
            x.cut(1, 1);
        }
        for (int n = 0; n < 5; n++) {
            Check.due("undo of nothing", x.undo(), 3);
        }
        Check.due("five at most, of these too", x.undo(), NONE);
        x = Check.made("aa", "a");
        Check.type(x, "a");
        Check.due("a for a", x.replace(0, 0, false), 2);
        Check.due("undo of a for a", x.undo(), 2);
        Check.due("undo of the insert", x.undo(), 0);
    }

    private static void byteAtAndLength() {
        Check.sentence("9: Byte i of the TEXT; NONE");
        EditFinder x = Check.withText("a\n~ ");
        int[] due = {NONE, 'a', 10, 126, 32, NONE, NONE};
        for (int i = -1; i < 6; i++) {
            Check.due("byteAt " + i, x.byteAt(i), due[i + 1]);
        }
        Check.due("byteAt least", x.byteAt(LEAST), NONE);
        Check.due("byteAt greatest", x.byteAt(GREATEST), NONE);
        Check.due("cut", x.cut(2, 4), 2);
        Check.due("no longer there", x.byteAt(2), NONE);
        x = Check.withText("a".repeat(1499) + "b");
        Check.due("byte 1499", x.byteAt(1499), 'b');
        Check.due("byte 1500", x.byteAt(1500), NONE);

        Check.sentence("10: How long the TEXT is");
        Check.due("1500", x.length(), 1500);
        x.cut(0, 1499);
        Check.due("1", x.length(), 1);
        x.cut(0, 1);
        Check.due("0", x.length(), 0);
        x.undo();
        Check.due("1 again", x.length(), 1);
        Check.type(x, "abc");
        Check.due("the tape does not count", x.length(), 1);
        x.insert(5);
        Check.due("BAD", x.length(), 1);
    }

    private static void find() {
        Check.sentence("11: The HITS of a pattern with k (0 .. 200) edits, swaps or not: how many");
        EditFinder x = Check.made("mabmbam", "mabm");
        Check.due("k = 0", x.find(0, 0, true), 1);
        Check.due("k = 1, no swaps", x.find(0, 1, false), 3);
        Check.due("k = 1, swaps", x.find(0, 1, true), 4);
        Check.due("k = 3", x.find(0, 3, true), 7);
        Check.due("k = 200", x.find(0, 200, true), 7);
        Check.due("k = 199", x.find(0, 199, false), 7);
        Check.due("an empty text", Check.made("", "a").find(0, 200, true), 0);
        Check.due("a full text", Check.made("a".repeat(1500), "a").find(0, 0, true), 1500);
        Check.due("a pattern longer than the text", Check.made("aaa", "aaaa").find(0, 0, true), 0);
        Check.due("a pattern as long as the text", Check.made("aaaa", "aaaa").find(0, 0, true), 1);

        Check.sentence("11: BAD");
        x = Check.made("aaa", "a");
        for (int k : new int[] {LEAST, -1, 201, 202, GREATEST}) {
            Check.due("k = " + k, x.find(0, k, true), BAD);
        }
        for (int p : new int[] {LEAST, -1, 1, 7, 8, GREATEST}) {
            Check.due("p = " + p, x.find(p, 0, true), BAD);
        }
    }

    private static void findStays() {
        Check.sentence("11: They stay until the next find() that is not BAD");
        EditFinder x = Check.made("xaby", "ab", "q");
        Check.due("find", x.find(0, 1, false), 3);
        Check.due("find", x.find(0, 201, false), BAD);
        Check.due("find", x.find(2, 0, false), BAD);
        Check.dueHit(x, 0, 2, 1, 1, "03");
        Check.dueHit(x, 1, 3, 0, 1, "00");
        Check.dueHit(x, 2, 4, 1, 1, "002");
        Check.due("find", x.find(0, 0, false), 1);
        Check.dueHit(x, 0, 3, 0, 1, "00");
        Check.due("find", x.find(0, 2, false), 4);
        Check.dueHit(x, 0, 1, 2, 1, "33");
        Check.due("find without hits", x.find(1, 0, false), 0);
        Check.due("no hit", x.hit(0, 0), BAD);
        Check.due("no step", x.step(0, 0), BAD);

        Check.sentence("11: whatever becomes of the text");
        x.find(0, 1, false);
        x.cut(0, 4);
        Check.dueHit(x, 2, 4, 1, 1, "002");
        Check.append(x, "qqqqqqqq");
        Check.dueHit(x, 1, 3, 0, 1, "00");
        Check.type(x, "ab");
        x.replace(1, 0, false);
        x.undo();
        x.undo();
        x.undo();
        Check.dueHit(x, 0, 2, 1, 1, "03");
        Check.pattern(x, 0, "[^a][^b]zz");
        Check.dueHit(x, 2, 4, 1, 1, "002");
        x.nearest(1, true, 0);
        x.lines(1, 2, true);
        x.whole(0, 0, x.length(), true, 9);
        x.apart(0, x.length(), 0, 0, true, 9);
        Check.dueHit(x, 0, 2, 1, 1, "03");
        x = Check.made("-mbam-", "mabm");
        Check.due("find", x.find(0, 1, true), 1);
        x.whole(0, 0, 6, false, 9);
        x.find(0, 1 + 200, false);
        x.cut(1, 5);
        Check.dueHit(x, 0, 5, 1, 1, "040");
    }

    private static void hit() {
        Check.sentence("12: what = 0 its place e, 1 its distance, 2 its BEGINNING, 3 how many STEPS");
        EditFinder x = Check.made("--abXcd", "abcd");
        int last = x.find(0, 1, false) - 1;
        int[] due = {7, 1, 2, 5};
        for (int what = 0; what < 4; what++) {
            Check.due("what " + what, x.hit(last, what), due[what]);
        }
        x = Check.made("mbam", "mabm");
        last = x.find(0, 1, true) - 1;
        Check.due("a swap is one step", x.hit(last, 3), 3);

        Check.sentence("12: BAD: no such hit, or what");
        x = Check.made("aa", "a");
        Check.due("find", x.find(0, 0, false), 2);
        for (int i : new int[] {LEAST, -1, 2, 3, 1500, GREATEST}) {
            for (int what = -1; what < 5; what++) {
                Check.due("hit " + i + " " + what, x.hit(i, what), BAD);
            }
        }
        for (int what : new int[] {LEAST, -1, 4, 5, GREATEST}) {
            Check.due("what " + what, x.hit(0, what), BAD);
            Check.due("what " + what, x.hit(1, what), BAD);
        }
    }

    private static void step() {
        Check.sentence("13: STEP j of hit i, from 0 on; NONE");
        EditFinder x = Check.made("-abXcd-", "abcde");
        Check.due("find", x.find(0, 2, false), 2);
        Check.dueHit(x, 0, 6, 2, 1, "002003");
        Check.dueHit(x, 1, 7, 2, 1, "002001");
        for (int j : new int[] {LEAST, -1, 6, 7, 400, GREATEST}) {
            Check.due("step " + j, x.step(0, j), NONE);
            Check.due("step " + j, x.step(1, j), NONE);
        }

        Check.sentence("13: BAD: no such hit");
        for (int i : new int[] {LEAST, -1, 2, 3, 1500, GREATEST}) {
            for (int j = -1; j < 2; j++) {
                Check.due("step " + i + " " + j, x.step(i, j), BAD);
            }
        }
        x = Check.made("a".repeat(1500), "b".repeat(200));
        x.find(0, 200, true);
        Check.due("the last step of the last hit", x.step(1499, 199), 3);
        Check.due("none behind it", x.step(1499, 200), NONE);
    }

    private static void nearest() {
        Check.sentence("14: The least k with which a pattern has a hit in the TEXT (what = 0)");
        EditFinder x = Check.made("xabxbxx", "abc", "x", "qqqq", "bacx");
        Check.due("one edit", x.nearest(0, false, 0), 1);
        Check.due("no edit", x.nearest(1, false, 0), 0);
        Check.due("as many as sets", x.nearest(2, true, 0), 4);
        Check.due("without swaps", x.nearest(3, false, 0), 2);
        Check.due("200 of 200", Check.made("b", "a".repeat(200)).nearest(0, true, 0), 200);
        Check.due("the text is one byte", Check.made("a", "ab").nearest(0, true, 0), 1);

        Check.sentence("14: the least place of one with it (1)");
        Check.due("one edit", x.nearest(0, false, 1), 3);
        Check.due("the first place", x.nearest(1, false, 1), 1);
        Check.due("no byte needed", x.nearest(2, false, 1), 1);
        Check.due("the last place", Check.made("a".repeat(1499) + "b", "b").nearest(0, false, 1), 1500);
        Check.due("the nearer one, not the first one", Check.made("ab-abc", "abc").nearest(0, false, 1), 6);
        Check.due("of several", Check.made("a-bab-ab", "ab").nearest(0, false, 1), 5);

        Check.sentence("14: NONE: the text is empty");
        x = Check.made("", "a");
        Check.due("what 0", x.nearest(0, false, 0), NONE);
        Check.due("what 1", x.nearest(0, true, 1), NONE);
        Check.append(x, "b");
        Check.due("not empty", x.nearest(0, false, 0), 1);
        x.undo();
        Check.due("empty again", x.nearest(0, false, 0), NONE);

        Check.sentence("14: BAD");
        for (int what : new int[] {LEAST, -1, 2, 3, GREATEST}) {
            Check.due("what " + what, x.nearest(0, false, what), BAD);
        }
        for (int p : new int[] {LEAST, -1, 1, 8, GREATEST}) {
            Check.due("p " + p, x.nearest(p, false, 0), BAD);
        }
        x = Check.made("b", "a");
        for (int what : new int[] {-1, 2}) {
            Check.due("what " + what, x.nearest(0, false, what), BAD);
        }
    }

    private static void lines() {
        Check.sentence("15: How many LINES have a hit of a pattern with k (0 .. 200) edits");
        EditFinder x = Check.made("ab\n\nxx\nba\nb", "ab");
        Check.dueLines(x, 0, true, 0);
        Check.dueLines(x, 1, true, 0, 3, 4);
        Check.dueLines(x, 2, true, 0, 2, 3, 4);
        Check.dueLines(x, 200, true, 0, 2, 3, 4);
        EditFinder sought = Check.made("b\na", "ab");
        Check.due("find", sought.find(0, 0, false), 0);
        Check.dueLines(sought, 0, false);
        Check.due("as many lines as can have one", Check.made("a\n".repeat(750), "a").lines(0, 0, false), 750);
        Check.due("an empty text", Check.made("", "a").lines(0, 200, false), 0);
        Check.due("1501 lines without bytes", Check.made("\n".repeat(1500), "a").lines(0, 200, false), 0);

        Check.sentence("15: BAD");
        for (int k : new int[] {LEAST, -1, 201, 202, GREATEST}) {
            Check.due("k = " + k, x.lines(0, k, true), BAD);
        }
        for (int p : new int[] {LEAST, -1, 1, 7, 8, GREATEST}) {
            Check.due("p = " + p, x.lines(p, 0, true), BAD);
        }
    }

    private static void line() {
        Check.sentence("16: The number (from 0) of the i-th LINE (from 0) with one");
        EditFinder x = Check.made("b\na\nb\na\na", "a");
        Check.due("lines", x.lines(0, 0, false), 3);
        int[] due = {1, 3, 4};
        for (int i = 0; i < 3; i++) {
            Check.due("line " + i, x.line(i), due[i]);
        }
        EditFinder many = Check.made("a\n".repeat(750), "a");
        many.lines(0, 0, false);
        Check.due("line 749", many.line(749), 749);
        Check.due("line 750", many.line(750), NONE);

        Check.sentence("16: NONE");
        for (int i : new int[] {LEAST, -1, 3, 4, 1500, GREATEST}) {
            Check.due("line " + i, x.line(i), NONE);
        }
        Check.due("before all lines()", new EditFinder().line(0), NONE);

        Check.sentence("16: of the latest lines() that was not BAD");
        Check.due("lines", x.lines(0, 201, false), BAD);
        Check.due("lines", x.lines(1, 0, false), BAD);
        Check.due("line 2", x.line(2), 4);
        Check.append(x, "a\na");
        Check.due("line 2 behind an insert", x.line(2), 4);
        Check.due("replace", x.replace(0, 0, false), 5);
        Check.due("line 2 behind a replace", x.line(2), 4);
        x.undo();
        Check.due("line 2 behind an undo", x.line(2), 4);
        x.cut(0, 12);
        Check.due("line 2 behind a cut", x.line(2), 4);
        Check.pattern(x, 0, "q");
        x.find(0, 1, false);
        x.nearest(0, false, 0);
        Check.due("line 1 behind other calls", x.line(1), 3);
        Check.due("line 3", x.line(3), NONE);
        Check.due("lines", x.lines(0, 0, false), 0);
        Check.due("line 0", x.line(0), NONE);
    }

    private static void replace() {
        Check.sentence("17: The hits of a pattern with k (0 .. 200) edits are REPLACED by the TAPE: how many");
        Check.dueReplaced("ab-ba", "ab", 0, true, "*", 1, "*-ba");
        Check.dueReplaced("mabmmbam", "mabm", 0, true, "*", 1, "*mbam");
        Check.dueReplaced("-mbam-", "mabm", 1, false, "*", 0, "-mbam-");
        Check.dueReplaced("-mbam-", "mabm", 1, true, "*", 1, "-*-");
        Check.dueReplaced("q", "ab", 200, true, "*", 0, "q");
        Check.dueReplaced("aba", "ab", 200, true, "*", 3, "***");

        Check.sentence("17: the TAPE, which is empty then");
        EditFinder x = Check.made("xyz", "a");
        Check.type(x, "bcd");
        Check.due("no hit", x.replace(0, 0, false), 0);
        Check.due("the tape is empty, though there was none", x.type('e', 1), 1);

        Check.sentence("17: BAD");
        x = Check.made("aa", "a");
        Check.type(x, "b");
        for (int k : new int[] {LEAST, -1, 201, 202, GREATEST}) {
            Check.due("k = " + k, x.replace(0, k, true), BAD);
        }
        for (int p : new int[] {LEAST, -1, 1, 7, 8, GREATEST}) {
            Check.due("p = " + p, x.replace(p, 0, true), BAD);
        }
        Check.dueText("BAD", x, "aa");
        Check.due("the tape is as it was", x.replace(0, 0, true), 2);
        Check.dueText("the tape is as it was", x, "bb");
    }

    private static void replaceRefused() {
        Check.sentence("17: REFUSED: the text would have more than 1500 (nothing is done, the tape stays)");
        EditFinder x = Check.made("a".repeat(1499), "a");
        Check.type(x, "bc");
        Check.due("2998", x.replace(0, 0, false), REFUSED);
        Check.dueText("nothing is done", x, "a".repeat(1499));
        Check.due("the tape stays", x.type('d', 1), 3);
        Check.due("nothing is there to be undone but the inserts", x.undo(), 1200);

        x = Check.made("-".repeat(1100) + "a", "a", "-");
        Check.type(x, "b".repeat(400));
        Check.due("1500", x.replace(0, 0, false), 1);
        Check.due("length", x.length(), 1500);
        Check.due("byte 1099", x.byteAt(1099), '-');
        Check.due("byte 1499", x.byteAt(1499), 'b');

        // too long by what the tape brings, or by what stands behind the last hit
        String[] texts = {"-".repeat(1101) + "a", "a" + "-".repeat(600) + "a" + "-".repeat(101), "a" + "-".repeat(1101)};
        for (String text : texts) {
            x = Check.made(text, "a");
            Check.type(x, "b".repeat(400));
            Check.due("1501", x.replace(0, 0, false), REFUSED);
            Check.dueText("nothing is done", x, text);
            x.cut(text.indexOf("-"), text.indexOf("-") + 1);
            Check.isTrue("1500", x.replace(0, 0, false) > 0);
            Check.due("length", x.length(), 1500);
        }
        // too long by what stands before a hit
        String between = "a" + "-".repeat(1101) + "a";
        x = Check.made(between, "a");
        Check.type(x, "b".repeat(400));
        Check.due("1901", x.replace(0, 0, false), REFUSED);
        Check.dueText("nothing is done", x, between);
        x = Check.made("a".repeat(1500), "a");
        Check.due("an empty tape", x.replace(0, 0, false), 1500);
        Check.due("length", x.length(), 0);
        Check.due("undo", x.undo(), 1500);
        Check.type(x, "b");
        Check.due("as long as before", x.replace(0, 0, false), 1500);
        Check.type(x, "cd");
        Check.due("no hits, so it fits", x.replace(0, 0, false), 0);
    }

    private static void whole() {
        Check.sentence("18: How far a pattern and a part of the TEXT, all of both, are apart");
        EditFinder x = Check.made("xxabcxx", "abc", "a".repeat(200));
        Check.due("the same", x.whole(0, 2, 5, false, 9), 0);
        Check.due("all of the part", x.whole(0, 0, 7, false, 9), 4);
        Check.due("all of the pattern", x.whole(0, 2, 3, false, 9), 2);
        Check.due("an empty part", x.whole(0, 7, 7, false, 9), 3);
        Check.due("200 sets, no byte", x.whole(1, 0, 0, false, 2000), 200);
        Check.due("200 sets, 1500 bytes", Check.made("b".repeat(1500), "a".repeat(200)).whole(0, 0, 1500, true, 2000), 1500);

        Check.sentence("18: ABOVE: more than limit (0 .. 2000)");
        Check.due("0 and limit 0", x.whole(0, 2, 5, false, 0), 0);
        Check.due("1 and limit 0", x.whole(0, 2, 4, false, 0), ABOVE);
        Check.due("1 and limit 1", x.whole(0, 2, 4, false, 1), 1);
        Check.due("4 and limit 3", x.whole(0, 0, 7, false, 3), ABOVE);
        Check.due("4 and limit 4", x.whole(0, 0, 7, false, 4), 4);
        Check.due("4 and limit 2000", x.whole(0, 0, 7, false, 2000), 4);
        for (int limit : new int[] {15, 16, 17, 63, 64, 65, 198, 199}) {
            Check.due("200 and limit " + limit, x.whole(1, 0, 0, false, limit), ABOVE);
        }
        Check.due("200 and limit 200", x.whole(1, 0, 0, false, 200), 200);
        x = Check.made("b".repeat(1500), "a".repeat(200));
        Check.due("1500 and limit 1499", x.whole(0, 0, 1500, true, 1499), ABOVE);
        Check.due("1500 and limit 1500", x.whole(0, 0, 1500, true, 1500), 1500);

        Check.sentence("18: BAD");
        for (int limit : new int[] {LEAST, -1, 2001, 2002, GREATEST}) {
            Check.due("limit " + limit, x.whole(0, 0, 1, true, limit), BAD);
        }
        for (int p : new int[] {LEAST, -1, 1, 8, GREATEST}) {
            Check.due("p " + p, x.whole(p, 0, 1, true, 9), BAD);
        }
        Check.due("from", x.whole(0, -1, 1, true, 9), BAD);
        Check.due("to", x.whole(0, 0, 1501, true, 9), BAD);
        Check.due("from and to", x.whole(0, 2, 1, true, 9), BAD);
    }

    private static void which() {
        Check.sentence("19: The pattern that is nearest to a part of the TEXT, all of both, of several the least");
        EditFinder x = Check.made("abcd", "bc", "abcx", "abxd", "abcd");
        Check.due("0 edits", x.which(0, 4, false), 3);
        Check.due("all of the part counts", x.which(1, 3, false), 0);
        Check.due("1 edit, the first of three", x.which(0, 3, false), 0);
        Check.pattern(x, 3, "axcd");
        Check.due("of three with one edit", x.which(0, 4, false), 1);
        Check.due("an empty part: the shortest", x.which(2, 2, false), 0);
        Check.pattern(x, 7, "q");
        Check.due("an empty part: a shorter one", x.which(4, 4, false), 7);
        x = Check.made("ba", "bb", "ab");
        Check.due("one edit each", x.which(0, 2, true), 0);
        x = Check.made("badc", "bacx", "abcd");
        Check.due("two edits and four", x.which(0, 4, false), 0);
        x = Check.made("b".repeat(1500), "a".repeat(200), "a", "b");
        Check.due("1500, 1500 and 1499", x.which(0, 1500, true), 2);
        x = Check.made("b".repeat(1500), "a".repeat(200), "a");
        Check.due("1500 and 1500", x.which(0, 1500, true), 0);
        x = Check.withText("b".repeat(1500));
        Check.pattern(x, 7, "a");
        Check.due("the only one, however far", x.which(0, 1500, true), 7);

        Check.sentence("19: NONE: there are no patterns");
        x = Check.withText("ab");
        Check.due("none", x.which(0, 2, true), NONE);
        Check.due("an empty part", x.which(2, 2, true), NONE);
        Check.pattern(x, 5, "]");
        Check.due("a fault is no pattern", x.which(0, 2, true), NONE);
        Check.pattern(x, 5, "q");
        Check.due("one", x.which(0, 2, true), 5);

        Check.sentence("19: BAD");
        Check.due("from", x.which(-1, 2, true), BAD);
        Check.due("to", x.which(0, 3, true), BAD);
        Check.due("from and to", x.which(2, 1, true), BAD);
        Check.due("without patterns too", Check.withText("ab").which(0, 3, true), BAD);
        Check.due("nor in an empty text", new EditFinder().which(0, 1, true), BAD);
    }

    private static void apart() {
        Check.sentence("20: How far two parts of the TEXT are apart");
        EditFinder x = Check.withText("abcdbacd");
        Check.due("swaps", x.apart(0, 4, 4, 8, true, 9), 1);
        Check.due("no swaps", x.apart(0, 4, 4, 8, false, 9), 2);
        Check.due("a part and itself", x.apart(1, 5, 1, 5, false, 0), 0);
        Check.due("parts over one another", x.apart(0, 3, 1, 4, false, 9), 2);
        Check.due("the other way round", x.apart(1, 4, 0, 3, false, 9), 2);
        Check.due("no bytes", x.apart(0, 0, 8, 8, false, 9), 0);
        Check.due("all and none", x.apart(0, 8, 8, 8, false, 9), 8);
        x = Check.withText("a".repeat(1500));
        Check.due("1500 and none", x.apart(0, 1500, 1500, 1500, true, 2000), 1500);
        Check.due("none and 1500", x.apart(0, 0, 0, 1500, true, 2000), 1500);

        Check.sentence("20: ABOVE: more than limit (0 .. 2000)");
        Check.due("1500 and limit 1500", x.apart(0, 1500, 0, 0, true, 1500), 1500);
        Check.due("1500 and limit 1499", x.apart(0, 1500, 0, 0, true, 1499), ABOVE);
        Check.due("0 and limit 0", x.apart(0, 1500, 0, 1500, true, 0), 0);
        Check.due("1 and limit 0", x.apart(0, 1500, 0, 1499, true, 0), ABOVE);
        Check.due("1 and limit 1", x.apart(0, 1499, 0, 1500, true, 1), 1);
        x = Check.withText("a".repeat(100) + "b".repeat(100));
        for (int far = 0; far <= 100; far++) {
            Check.due("limit " + far, x.apart(0, far, 100, 100 + far, false, far), far);
            if (far > 0) {
                Check.due("limit below " + far, x.apart(0, far, 100, 100 + far, false, far - 1), ABOVE);
            }
        }

        Check.sentence("20: BAD");
        for (int limit : new int[] {LEAST, -1, 2001, 2002, GREATEST}) {
            Check.due("limit " + limit, x.apart(0, 1, 0, 1, true, limit), BAD);
        }
        int[][] parts = {{-1, 1}, {2, 1}, {0, 201}, {201, 201}, {LEAST, GREATEST}};
        for (int[] part : parts) {
            Check.due("part", x.apart(part[0], part[1], 0, 1, true, 9), BAD);
            Check.due("other part", x.apart(0, 1, part[0], part[1], true, 9), BAD);
        }
        Check.due("the ends", x.apart(200, 200, 0, 0, true, 0), 0);
    }
}
