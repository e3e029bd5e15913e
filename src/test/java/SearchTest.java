/** Promises 11 to 16: find, hit, step, nearest, lines, line. */
public final class SearchTest {
    private static final int NONE = EditFinder.NONE;
    private static final int BAD = EditFinder.BAD;
    private static final int[] NO_EDITS = {-1, 201, Integer.MIN_VALUE, Integer.MAX_VALUE};
    private static final int[] NO_PATTERN = {-1, 1, 7, 8, Integer.MIN_VALUE, Integer.MAX_VALUE};

    public static void main(String[] args) {
        exactHits();
        hitsWithSets();
        hitsWithEdits();
        hitsWithSwaps();
        hitsWithoutBytes();
        preferredSteps();
        hitsStay();
        wrongFinds();
        wrongHits();
        longestHits();
        nearestHits();
        linesWithHits();
        linesStay();
        Check.finish("SearchTest");
    }

    private static void exactHits() {
        EditFinder x = Check.made("aabab", "ab");
        Check.due("find", x.find(0, 0, false), 2);
        Check.dueHit(x, 0, 3, 0, 1, "00");
        Check.dueHit(x, 1, 5, 0, 3, "00");
        Check.due("overlapping hits", Check.made("aaaa", "aa").find(0, 0, true), 3);
        Check.due("a pattern longer than the text", Check.made("a", "ab").find(0, 0, true), 0);
        Check.due("an empty text", Check.made("", "a").find(0, 200, true), 0);
    }

    private static void hitsWithSets() {
        EditFinder x = Check.made("cat cut\nc\nt c~t", "c.t");
        Check.due(". has not 10", x.find(0, 0, false), 3);
        Check.due("the third one", x.hit(2, 0), 15);
        x = Check.made("c\nt", "c[^a]t");
        Check.due("[^a] has 10", x.find(0, 0, false), 1);
        x = Check.made("0a9z", "[0-9][a-z]");
        Check.due("ranges", x.find(0, 0, false), 2);
        Check.due("the empty set", Check.made("aaa", "[b-a]").find(0, 0, false), 0);
    }

    private static void hitsWithEdits() {
        EditFinder x = Check.made("xaxcx", "abc");
        Check.due("find", x.find(0, 1, false), 1);
        Check.dueHit(x, 0, 4, 1, 1, "010");
        x = Check.made("xxabxcxx", "abc");
        Check.due("find", x.find(0, 1, false), 3);
        Check.dueHit(x, 0, 4, 1, 2, "003");
        Check.dueHit(x, 1, 5, 1, 2, "001");
        Check.dueHit(x, 2, 6, 1, 2, "0020");
        x = Check.made("xbcx", "abc");
        Check.due("find", x.find(0, 1, false), 1);
        // b = 0 changes x into a, b = 1 leaves a out: both one edit, the greatest b is the beginning
        Check.dueHit(x, 0, 3, 1, 1, "300");
        x = Check.made("ab", "ab");
        Check.due("the least distance counts, not k", x.find(0, 2, false), 2);
        Check.dueHit(x, 0, 1, 1, 0, "03");
        Check.dueHit(x, 1, 2, 0, 0, "00");
    }

    private static void hitsWithSwaps() {
        EditFinder x = Check.made("xbaxx", "ab");
        Check.due("no swaps", x.find(0, 1, false), 3);
        Check.dueHit(x, 0, 2, 1, 1, "30");
        Check.dueHit(x, 1, 3, 1, 2, "03");
        Check.dueHit(x, 2, 4, 1, 2, "01");
        Check.due("swaps", x.find(0, 1, true), 3);
        // leaving b out is one edit as well and begins later
        Check.dueHit(x, 1, 3, 1, 2, "03");
        x = Check.made("acbd", "abcd");
        Check.due("swaps in the middle", x.find(0, 1, true), 1);
        Check.dueHit(x, 0, 4, 1, 0, "040");
        Check.due("without them", x.find(0, 1, false), 0);
        Check.due("two edits without them", x.find(0, 2, false), 3);
        Check.due("swapped bytes are left alone", Check.made("ca", "abc").find(0, 2, true), 2);
        x = Check.made("xq7x", "x[0-9][a-z]x");
        Check.due("swapped sets", x.find(0, 1, true), 1);
        Check.dueHit(x, 0, 4, 1, 0, "040");
        x = Check.made("xqqx", "x[0-9][a-z]x");
        x.find(0, 1, true);
        Check.due("the second set must have the first byte, the first one the second", x.hit(0, 3), 4);
        Check.due("changed it is", x.step(0, 1), 1);
        x = Check.made("mbadcm", "mabcdm");
        Check.due("two swaps", x.find(0, 2, true), 1);
        Check.dueHit(x, 0, 6, 2, 0, "0440");
        x = Check.made("badc", "abcd");
        Check.due("a swap and a set left out begin later", x.find(0, 2, true), 2);
        Check.dueHit(x, 1, 4, 2, 1, "034");
    }

    private static void hitsWithoutBytes() {
        EditFinder x = Check.made("zz", "ab");
        Check.due("not with one edit", x.find(0, 1, true), 0);
        Check.due("all sets left out", x.find(0, 2, true), 2);
        Check.dueHit(x, 0, 1, 2, 1, "33");
        Check.dueHit(x, 1, 2, 2, 2, "33");
        Check.due("no place 0", x.hit(2, 0), BAD);
    }

    private static void preferredSteps() {
        EditFinder x = Check.made("ayb", "axxb");
        Check.due("find", x.find(0, 2, false), 1);
        // either x may be the changed one: from the end on, changed goes before left out
        Check.dueHit(x, 0, 3, 2, 0, "0310");
        x = Check.made("abab", "aab");
        x.find(0, 1, true);
        Check.due("hits", x.hit(0, 0), 2);
        Check.dueHit(x, 0, 2, 1, 0, "300");
        Check.dueHit(x, 2, 4, 1, 2, "300");
        x = Check.made("axxb", "ayb");
        Check.due("more before changed", x.find(0, 2, false), 4);
        Check.dueHit(x, 3, 4, 2, 3, "330");
        x = Check.made("pqaxxbcdp", "pqaybcdp");
        Check.due("more", x.find(0, 2, false), 1);
        Check.dueHit(x, 0, 9, 2, 0, "000210000");
        // with sets that have both bytes a swap is never better than two bytes that stand
        x = Check.made("ab", "[ab][ab]");
        x.find(0, 1, true);
        Check.dueHit(x, 1, 2, 0, 0, "00");
        x = Check.made("mmbamm", "mmabmm");
        Check.due("swapped", x.find(0, 2, true), 2);
        // of 00403 and 003010 that one in which the step before the last one goes along
        Check.dueHit(x, 0, 5, 2, 0, "003010");
        Check.dueHit(x, 1, 6, 1, 0, "00400");
        // 4100, 1400 and 300200 all have two edits
        x = Check.made("pqxyaba12", "pqxybab12");
        Check.due("changed goes before swapped", x.find(0, 2, true), 1);
        Check.dueHit(x, 0, 9, 2, 0, "00004100");
        x = Check.made("pqxyab12", "pqxyba12");
        Check.due("swapped goes before less", x.find(0, 1, true), 1);
        Check.dueHit(x, 0, 8, 1, 0, "0000400");
        Check.due("changed goes before more and less", x.find(0, 2, false), 1);
        Check.dueHit(x, 0, 8, 2, 0, "00001100");
        // 300002 and 200003 both have two edits, changed bytes would be five
        x = Check.made("pqxyababa12", "pqxybabab12");
        Check.due("more goes before less", x.find(0, 2, false), 1);
        Check.dueHit(x, 0, 11, 2, 0, "000030000200");
    }

    private static void hitsStay() {
        EditFinder x = Check.made("xabx", "ab");
        x.find(0, 1, true);
        int count = 3;
        Check.due("hits", x.find(0, 1, true), count);
        x.cut(0, 4);
        Check.pattern(x, 0, "qqq");
        Check.dueHit(x, 1, 3, 0, 1, "00");
        Check.type(x, "mmmmmmmm");
        x.insert(0);
        Check.dueHit(x, 2, 4, 1, 1, "002");
        Check.due("BAD", x.find(0, 201, false), BAD);
        x.lines(0, 3, true);
        x.nearest(0, false, 0);
        x.whole(0, 0, 4, true, 9);
        x.apart(0, 3, 0, 8, true, 9);
        x.replace(0, 3, true);
        x.undo();
        Check.dueHit(x, 0, 2, 1, 1, "03");
        Check.dueHit(x, 2, 4, 1, 1, "002");
        Check.due("a find without hits", x.find(0, 0, false), 0);
        Check.due("takes them away", x.hit(0, 0), BAD);
    }

    private static void wrongFinds() {
        EditFinder x = Check.made("ab\nab", "ab");
        for (int k : NO_EDITS) {
            Check.due("find k " + k, x.find(0, k, false), BAD);
            Check.due("lines k " + k, x.lines(0, k, false), BAD);
        }
        for (int p : NO_PATTERN) {
            Check.due("find " + p, x.find(p, 0, false), BAD);
            Check.due("lines " + p, x.lines(p, 0, false), BAD);
            Check.due("nearest " + p, x.nearest(p, false, 0), BAD);
        }
        Check.due("k = 200", x.find(0, 200, true), 5);
        Check.due("k = 200", x.lines(0, 200, true), 2);
        for (int what : new int[] {-1, 2, 3, Integer.MIN_VALUE, Integer.MAX_VALUE}) {
            Check.due("nearest what " + what, x.nearest(0, false, what), BAD);
        }
    }

    private static void wrongHits() {
        EditFinder x = Check.made("abcb", "ab");
        Check.due("find", x.find(0, 0, false), 1);
        Check.due("a step before all else", x.step(0, 1), 0);
        Check.due("find", x.find(0, 1, false), 4);
        Check.due("a step of another find", x.step(0, 1), 3);
        Check.due("a step of another hit", x.step(3, 0), 3);
        Check.due("find", x.find(0, 0, false), 1);
        for (int i : new int[] {-1, 1, 1500, Integer.MIN_VALUE, Integer.MAX_VALUE}) {
            for (int what = 0; what < 4; what++) {
                Check.due("hit " + i, x.hit(i, what), BAD);
            }
            Check.due("step " + i, x.step(i, 0), BAD);
            Check.due("step " + i, x.step(i, -1), BAD);
        }
        for (int what : new int[] {-1, 4, Integer.MIN_VALUE, Integer.MAX_VALUE}) {
            Check.due("what " + what, x.hit(0, what), BAD);
        }
        for (int j : new int[] {-1, 2, 400, Integer.MIN_VALUE, Integer.MAX_VALUE}) {
            Check.due("step " + j, x.step(0, j), NONE);
        }
    }

    private static void longestHits() {
        EditFinder x = Check.made("ab".repeat(750), "ab".repeat(100));
        Check.due("all places", x.find(0, 200, true), 1500);
        Check.due("the last place", x.hit(1499, 0), 1500);
        Check.due("its distance", x.hit(1499, 1), 0);
        Check.due("its beginning", x.hit(1499, 2), 1300);
        Check.due("its steps", x.hit(1499, 3), 200);
        Check.due("place 1", x.hit(0, 1), 199);
        Check.due("its beginning", x.hit(0, 2), 0);
        Check.due("its steps", x.hit(0, 3), 200);
        // as many bytes too many as can be: with 95 of them leaving 95 sets out begins later
        String letters = Check.allBytesBut("\n");
        String told = "\\" + String.join("\\", letters.split(""));
        x = Check.made(letters + "\n".repeat(94) + letters, told + told);
        int last = x.find(0, 94, true) - 1;
        Check.dueHit(x, last, 284, 94, 0, "0".repeat(95) + "2".repeat(94) + "0".repeat(95));
        x = Check.made(letters + "\n".repeat(95) + letters, told + told);
        last = x.find(0, 95, true) - 1;
        Check.dueHit(x, last, 285, 95, 190, "3".repeat(95) + "0".repeat(95));
        x = Check.made("a" + "-".repeat(20) + "b", "ab");
        Check.due("far apart", x.find(0, 1, false), 3);
    }

    private static void nearestHits() {
        EditFinder x = Check.made("xxabdxabcx", "abc");
        Check.due("least k", x.nearest(0, false, 0), 0);
        Check.due("its place", x.nearest(0, false, 1), 9);
        x = Check.made("xxabdxabdx", "abc");
        Check.due("least k", x.nearest(0, false, 0), 1);
        Check.due("its least place", x.nearest(0, false, 1), 4);
        x = Check.made("zzacbd", "abcd");
        Check.due("without swaps", x.nearest(0, false, 0), 2);
        Check.due("the place", x.nearest(0, false, 1), 4);
        Check.due("with swaps", x.nearest(0, true, 0), 1);
        Check.due("the place", x.nearest(0, true, 1), 6);
        x = Check.made("zzz", "abcd");
        Check.due("all left out", x.nearest(0, true, 0), 4);
        Check.due("at the first place", x.nearest(0, true, 1), 1);
        x = Check.made("", "abcd");
        Check.due("an empty text", x.nearest(0, true, 0), NONE);
        Check.due("an empty text", x.nearest(0, true, 1), NONE);
        Check.due("BAD goes before NONE", x.nearest(0, true, 2), BAD);
        Check.due("BAD goes before NONE", x.nearest(1, true, 0), BAD);
        x = Check.made("b", "a".repeat(200));
        Check.due("200 edits", x.nearest(0, true, 0), 200);
    }

    private static void linesWithHits() {
        EditFinder x = Check.made("ab\nxx\na\nb\nabab\n\nba", "ab");
        Check.dueLines(x, 0, false, 0, 4);
        Check.dueLines(x, 1, false, 0, 2, 3, 4, 6);
        Check.dueLines(x, 2, false, 0, 1, 2, 3, 4, 6);
        Check.dueLines(x, 200, true, 0, 1, 2, 3, 4, 6);
        Check.dueLines(Check.made("\n\n", "[^x]"), 0, false);
        Check.dueLines(Check.made("\n\n", "[^x]"), 200, false);
        Check.dueLines(Check.made("", "a"), 200, false);
        Check.dueLines(Check.made("a\n", "a"), 0, false, 0);
        Check.dueLines(Check.made("\na", "a"), 0, false, 1);
        // a hit over a line's end is none of a line's
        EditFinder over = Check.made("a\nb", "a[\n]b");
        Check.due("a hit in the text", over.find(0, 0, false), 1);
        Check.dueLines(over, 0, false);
        Check.dueLines(over, 1, false);
        Check.dueLines(over, 2, false, 0, 1);
        // nor is one that swaps bytes over a line's end
        Check.dueLines(Check.made("mb\nan", "mabn"), 1, true);
        Check.dueLines(Check.made("mban", "mabn"), 1, true, 0);
        Check.dueLines(Check.made("mb\nan-p", "mabnop"), 2, true);
        Check.dueLines(Check.made("mban-p", "mabnop"), 2, true, 0);
        EditFinder swapped = Check.made("dcba\ndbca", "dbca");
        Check.dueLines(swapped, 0, true, 1);
        Check.dueLines(swapped, 1, true, 0, 1);
        Check.dueLines(swapped, 1, false, 1);
        EditFinder many = Check.made("a\n".repeat(750), "a");
        Check.due("as many as can be", many.lines(0, 0, false), 750);
        Check.due("the last one", many.line(749), 749);
        Check.due("none behind", many.line(750), NONE);
    }

    private static void linesStay() {
        EditFinder x = Check.made("b\na\nb\na", "a");
        Check.due("none yet", x.line(0), NONE);
        Check.dueLines(x, 0, false, 1, 3);
        Check.due("BAD", x.lines(0, 201, false), BAD);
        Check.due("BAD", x.lines(5, 0, false), BAD);
        x.cut(0, 7);
        x.find(0, 0, false);
        Check.due("line 1", x.line(1), 3);
        for (int i : new int[] {-1, 2, 1500, Integer.MIN_VALUE, Integer.MAX_VALUE}) {
            Check.due("line " + i, x.line(i), NONE);
        }
        Check.dueLines(x, 0, false);
    }
}
