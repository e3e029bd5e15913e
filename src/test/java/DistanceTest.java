/** Promises 17 to 20: replace, whole, which, apart. */
public final class DistanceTest {
    private static final int NONE = EditFinder.NONE;
    private static final int BAD = EditFinder.BAD;
    private static final int REFUSED = EditFinder.REFUSED;
    private static final int ABOVE = EditFinder.ABOVE;
    private static final int[][] NO_PARTS = {{-1, 2}, {2, 1}, {0, 9}, {9, 9}, {Integer.MIN_VALUE, Integer.MAX_VALUE},
        {0, Integer.MAX_VALUE}, {Integer.MAX_VALUE, Integer.MAX_VALUE}, {1, Integer.MIN_VALUE}};
    private static final int[] NO_LIMITS = {-1, 2001, Integer.MIN_VALUE, Integer.MAX_VALUE};

    public static void main(String[] args) {
        replacing();
        replacingWithEdits();
        replacingToTheEnd();
        wrongReplaces();
        wholePatterns();
        whichPattern();
        apartParts();
        wrongDistances();
        longDistances();
        Check.finish("DistanceTest");
    }

    private static void replacing() {
        Check.dueReplaced("xabxab", "ab", 0, false, "-", 2, "x-x-");
        Check.dueReplaced("xabxab", "ab", 0, false, "", 2, "xx");
        Check.dueReplaced("abab", "ab", 0, false, "abab", 2, "abababab");
        Check.dueReplaced("aaaaa", "aa", 0, false, "b", 2, "bba");
        Check.dueReplaced("xyz", "ab", 0, false, "q", 0, "xyz");
        Check.dueReplaced("", "ab", 0, false, "q", 0, "");
        Check.dueReplaced("a\nb", ".", 0, false, "--", 2, "--\n--");
        Check.dueReplaced("a\nb", "[^a]", 0, false, "", 2, "a");
        // what the tape brings is not looked at again
        Check.dueReplaced("ab", "ab", 0, false, "xab", 1, "xab");
    }

    private static void replacingWithEdits() {
        EditFinder x = Check.withText("abab");
        Check.pattern(x, 0, "ab");
        Check.type(x, "cabc");
        Check.due("once", x.replace(0, 0, false), 2);
        Check.type(x, "x");
        Check.due("and again", x.replace(0, 0, false), 2);
        Check.dueText("twice", x, "cxccxc");
        // the least place goes first, though a later one would be nearer
        Check.dueReplaced("xabcx", "abc", 1, false, "-", 1, "x-cx");
        // behind a hit the rest is a text of its own: ab leaves c, which is two edits away
        Check.dueReplaced("abcabc", "abc", 1, false, "-", 2, "-c-c");
        Check.dueReplaced("ba", "ab", 1, true, "-", 2, "--");
        Check.dueReplaced("mabdcz", "abcd", 1, true, "-", 1, "m-cz");
        Check.dueReplaced("macbdz", "abcd", 1, true, "-", 1, "m-z");
        Check.dueReplaced("macbdz", "abcd", 1, false, "-", 0, "macbdz");
        // hits without bytes are passed over, one with bytes behind them is taken
        Check.dueReplaced("zzabzz", "ab", 2, false, "-", 2, "zz--zz");
        Check.dueReplaced("zzzz", "ab", 2, true, "-", 0, "zzzz");
        Check.dueReplaced("zzzz", "ab", 200, true, "-", 0, "zzzz");
        Check.dueReplaced("zaz", "a", 1, false, "-", 1, "z-z");
        // a swap does not reach back over the end of a hit
        Check.dueReplaced("bab", "bab", 1, true, "", 1, "b");
    }

    private static void replacingToTheEnd() {
        EditFinder x = Check.withText("a".repeat(10) + "b".repeat(1480));
        Check.pattern(x, 0, "a");
        Check.pattern(x, 1, "[ab]");
        Check.pattern(x, 2, "b");
        Check.type(x, "xy");
        Check.due("1500 fit", x.replace(0, 0, false), 10);
        Check.due("length", x.length(), 1500);
        Check.due("undo", x.undo(), 1490);
        Check.type(x, "xyz");
        Check.due("1510 do not", x.replace(0, 0, false), REFUSED);
        Check.due("nothing is done", x.length(), 1490);
        Check.due("nothing is done", x.byteAt(0), 'a');
        Check.due("nothing is done", x.byteAt(1489), 'b');
        Check.due("many times too long", x.replace(1, 0, false), REFUSED);
        Check.due("the tape stays", x.type('w', 1), 4);
        Check.due("nothing to undo but the inserts", x.insert(1490), 1494);
        Check.due("undo", x.undo(), 1490);
        // while the hits go one by one the text would be beyond 1500, in the end it is not
        x = Check.withText("abc".repeat(150) + "ab-cd".repeat(210));
        Check.pattern(x, 0, "abcd");
        Check.type(x, "1234");
        Check.due("one edit", x.replace(0, 1, false), 360);
        Check.due("length", x.length(), 1440);
        x = Check.withText("abc".repeat(250) + "ab-cd".repeat(150));
        Check.pattern(x, 0, "abcd");
        Check.type(x, "1234");
        Check.due("one edit", x.replace(0, 1, false), REFUSED);
        Check.due("length", x.length(), 1500);
    }

    private static void wrongReplaces() {
        EditFinder x = Check.withText("abab");
        Check.pattern(x, 0, "ab");
        Check.type(x, "-");
        for (int k : new int[] {-1, 201, Integer.MIN_VALUE, Integer.MAX_VALUE}) {
            Check.due("replace k " + k, x.replace(0, k, false), BAD);
        }
        for (int p : new int[] {-1, 1, 7, 8, Integer.MIN_VALUE, Integer.MAX_VALUE}) {
            Check.due("replace p " + p, x.replace(p, 0, false), BAD);
        }
        Check.dueText("BAD", x, "abab");
        Check.due("the tape stays if BAD", x.replace(0, 0, false), 2);
        Check.dueText("replace", x, "--");
        x = Check.withText("a".repeat(1500));
        Check.pattern(x, 0, "a");
        Check.type(x, "ab");
        Check.due("BAD goes before REFUSED", x.replace(0, 201, false), BAD);
        Check.due("REFUSED", x.replace(0, 0, false), REFUSED);
    }

    private static void wholePatterns() {
        EditFinder x = Check.withText("abcdef");
        Check.pattern(x, 0, "[a-c].[x-z]");
        Check.due("abc", x.whole(0, 0, 3, false, 2000), 1);
        Check.due("ab", x.whole(0, 0, 2, false, 2000), 1);
        Check.due("nothing", x.whole(0, 3, 3, false, 3), 3);
        Check.due("nothing, limit 2", x.whole(0, 3, 3, false, 2), ABOVE);
        Check.due("all", x.whole(0, 0, 6, false, 2000), 4);
        Check.due("all, limit 3", x.whole(0, 0, 6, false, 3), ABOVE);
        Check.due("all, limit 4", x.whole(0, 0, 6, false, 4), 4);
        Check.pattern(x, 1, "bacd");
        Check.due("swaps", x.whole(1, 0, 4, true, 9), 1);
        Check.due("no swaps", x.whole(1, 0, 4, false, 9), 2);
        Check.due("limit 0", x.whole(1, 0, 4, true, 0), ABOVE);
        Check.pattern(x, 2, "cde");
        Check.due("limit 0 and the same", x.whole(2, 2, 5, true, 0), 0);
        Check.due("a part with two bytes more", x.whole(2, 1, 6, true, 5), 2);
    }

    private static void whichPattern() {
        EditFinder x = Check.withText("kitten sitting");
        Check.due("none", x.which(0, 6, false), NONE);
        Check.due("BAD goes before NONE", x.which(0, 15, false), BAD);
        Check.pattern(x, 6, "sitting");
        Check.due("the only one", x.which(0, 6, false), 6);
        Check.pattern(x, 2, "mitten");
        Check.due("the nearest", x.which(0, 6, false), 2);
        Check.due("the nearest", x.which(7, 14, false), 6);
        Check.pattern(x, 7, "bitten");
        Check.due("the least of several", x.which(0, 6, false), 2);
        Check.pattern(x, 1, "litten");
        Check.due("the least of several", x.which(0, 6, false), 1);
        Check.pattern(x, 5, "[k-l]itten");
        Check.due("a nearer one behind", x.which(0, 6, false), 5);
        Check.pattern(x, 0, "ktiten");
        Check.due("no swaps", x.which(0, 6, false), 5);
        Check.pattern(x, 5, "kttten");
        Check.due("one edit, the least", x.which(0, 6, false), 1);
        Check.due("swaps: one edit, the least", x.which(0, 6, true), 0);
        Check.due("an empty part is nearest to the shortest", x.which(3, 3, true), 0);
        Check.pattern(x, 7, "qq");
        Check.due("now pattern 7", x.which(3, 3, true), 7);
        for (int[] part : new int[][] {{-1, 2}, {2, 1}, {0, 15}, {15, 15}, {0, Integer.MAX_VALUE}}) {
            Check.due("which", x.which(part[0], part[1], false), BAD);
        }
    }

    private static void apartParts() {
        EditFinder x = Check.withText("kitten sitting ca abc acb");
        Check.due("kitten, sitting", x.apart(0, 6, 7, 14, false, 2000), 3);
        Check.due("sitting, kitten", x.apart(7, 14, 0, 6, true, 3), 3);
        Check.due("limit 2", x.apart(7, 14, 0, 6, true, 2), ABOVE);
        Check.due("ca, abc", x.apart(15, 17, 18, 21, true, 9), 3);
        Check.due("abc, acb", x.apart(18, 21, 22, 25, true, 9), 1);
        Check.due("abc, acb, no swaps", x.apart(18, 21, 22, 25, false, 9), 2);
        Check.due("the same part", x.apart(0, 25, 0, 25, false, 0), 0);
        Check.due("parts that overlap", x.apart(0, 24, 1, 25, false, 9), 2);
        Check.due("nothing and nothing", x.apart(3, 3, 25, 25, true, 0), 0);
        Check.due("nothing and six", x.apart(3, 3, 0, 6, true, 6), 6);
        Check.due("six and nothing", x.apart(0, 6, 3, 3, true, 6), 6);
        Check.due("six and nothing, limit 5", x.apart(0, 6, 3, 3, true, 5), ABOVE);
        // bytes that mean more in a pattern are bytes here
        x = Check.withText(".[a].\\]a-z\n");
        Check.due("a point is a point", x.apart(0, 1, 2, 3, false, 9), 1);
        Check.due("points are the same", x.apart(0, 1, 4, 5, false, 0), 0);
        Check.due("other bytes", x.apart(0, 4, 5, 11, false, 9), 5);
        Check.due("10 is a byte", x.apart(10, 11, 10, 11, false, 0), 0);
        String all = Check.allBytesBut("");
        x = Check.withText(all + all);
        Check.due("all bytes", x.apart(0, 96, 96, 192, false, 0), 0);
        for (int i = 0; i < 95; i++) {
            Check.due("byte and byte", x.apart(i, i + 1, 96 + i, 97 + i, false, 9), 0);
            Check.due("byte and next byte", x.apart(i, i + 1, 97 + i, 98 + i, false, 9), 1);
        }
    }

    private static void wrongDistances() {
        EditFinder x = Check.withText("abcdefgh");
        Check.pattern(x, 0, "abc");
        for (int[] part : NO_PARTS) {
            Check.due("whole", x.whole(0, part[0], part[1], false, 9), BAD);
            Check.due("which", x.which(part[0], part[1], false), BAD);
            Check.due("apart", x.apart(part[0], part[1], 0, 1, false, 9), BAD);
            Check.due("apart", x.apart(0, 1, part[0], part[1], false, 9), BAD);
        }
        for (int limit : NO_LIMITS) {
            Check.due("whole limit " + limit, x.whole(0, 0, 3, false, limit), BAD);
            Check.due("apart limit " + limit, x.apart(0, 3, 0, 3, false, limit), BAD);
        }
        for (int p : new int[] {-1, 1, 7, 8, Integer.MIN_VALUE, Integer.MAX_VALUE}) {
            Check.due("whole p " + p, x.whole(p, 0, 3, false, 9), BAD);
        }
        Check.due("limit 2000", x.whole(0, 0, 8, false, 2000), 5);
        Check.due("the ends", x.whole(0, 8, 8, false, 2000), 3);
    }

    private static void longDistances() {
        EditFinder x = Check.withText("a".repeat(750) + "b".repeat(750));
        Check.due("half and half", x.apart(0, 750, 750, 1500, true, 2000), 750);
        Check.due("half and half, limit 750", x.apart(0, 750, 750, 1500, true, 750), 750);
        Check.due("half and half, limit 749", x.apart(0, 750, 750, 1500, true, 749), ABOVE);
        Check.due("all and nothing", x.apart(0, 1500, 0, 0, true, 1500), 1500);
        Check.due("all and nothing, limit 2000", x.apart(0, 1500, 0, 0, true, 2000), 1500);
        Check.due("nothing and all, limit 2000", x.apart(0, 0, 0, 1500, true, 2000), 1500);
        Check.due("nothing and all", x.apart(0, 0, 0, 1500, true, 1499), ABOVE);
        Check.due("all and all", x.apart(0, 1500, 0, 1500, true, 2000), 0);
        Check.due("all and all but one", x.apart(0, 1500, 0, 1499, true, 2000), 1);
        Check.due("crosswise", x.apart(0, 1000, 500, 1500, false, 2000), 1000 - 500);
        Check.pattern(x, 0, "a".repeat(200));
        Check.due("a whole text", x.whole(0, 0, 1500, true, 2000), 1300);
        Check.due("a whole text, limit 1299", x.whole(0, 0, 1500, true, 1299), ABOVE);
        Check.due("other bytes", x.whole(0, 750, 1500, true, 2000), 750);
        Check.due("which", x.which(0, 1500, true), 0);
    }
}
