/** The boundary cases that the document names under 'Terms', sentence by sentence. */
public final class TermEdgesTest {
    private static final int NONE = EditFinder.NONE;
    private static final int BAD = EditFinder.BAD;
    private static final int REFUSED = EditFinder.REFUSED;
    private static final int LEAST = Integer.MIN_VALUE;
    private static final int GREATEST = Integer.MAX_VALUE;

    public static void main(String[] args) {
        bytes();
        tapeAndText();
        patterns();
        elements();
        bracketsAndItems();
        dashes();
        faultClosed();
        faultNoItems();
        faultEnd();
        faultTooMany();
        firstFault();
        edits();
        swapped();
        hitPlaces();
        hitDistances();
        hitsWithoutBytes();
        steps();
        stepOrder();
        lineBounds();
        linesAlone();
        replacing();
        replacingWithoutBytes();
        twoParts();
        badNumbers();
        badPatterns();
        badParts();
        badChangesNothing();
        Check.finish("TermEdgesTest");
    }

    private static void bytes() {
        Check.sentence("BYTES are 10 and 32 .. 126");
        EditFinder x = Check.made("", "[^a-a]");
        int typed = 0;
        for (int b : new int[] {10, 32, 33, 125, 126}) {
            typed++;
            Check.due("type " + b, x.type(b, 1), typed);
            Check.due("has " + b, x.has(0, 0, b), 1);
        }
        for (int b : new int[] {0, 9, 11, 13, 31, 127, 128, 138, 160, 254, 255}) {
            Check.due("type " + b, x.type(b, 1), BAD);
            Check.due("has " + b, x.has(0, 0, b), BAD);
        }
        Check.due("the bytes alone were typed", x.insert(0), typed);
        Check.dueText("the bytes", x, "\n !}~");
    }

    private static void tapeAndText() {
        Check.sentence("THE TAPE has 400 of them at most");
        EditFinder x = new EditFinder();
        Check.type(x, "a".repeat(399));
        Check.due("two more", x.type(Check.word("bc"), 2), REFUSED);
        Check.due("the 400th", x.type('b', 1), 400);
        Check.due("a 401st", x.type('c', 1), REFUSED);
        Check.due("insert", x.insert(0), 400);
        Check.dueText("insert", x, "a".repeat(399) + "b");

        Check.sentence("THE TEXT 1500");
        x = Check.withText("a".repeat(1499));
        Check.type(x, "bc");
        Check.due("1501", x.insert(0), REFUSED);
        Check.due("anew", x.pattern(0), 2);
        Check.type(x, "d");
        Check.due("1500", x.insert(1499), 1500);
        Check.due("the last byte", x.byteAt(1499), 'd');
        Check.type(x, "e");
        Check.due("1501", x.insert(1500), REFUSED);
        Check.due("length", x.length(), 1500);
    }

    private static void patterns() {
        Check.sentence("PATTERNS 0 .. 7");
        EditFinder x = new EditFinder();
        Check.due("pattern 0", Check.pattern(x, 0, "a"), 1);
        Check.due("pattern 7", Check.pattern(x, 7, "bc"), 2);
        Check.due("pattern -1", Check.pattern(x, -1, "d"), BAD);
        Check.due("pattern 8", x.pattern(8), BAD);
        Check.due("pattern 0 stays", x.has(0, 0, 'a'), 1);
        Check.due("pattern 7 stays", x.has(7, 1, 'c'), 1);

        Check.sentence("rows of 1 to 200 SETS of bytes each");
        x = new EditFinder();
        Check.due("no set", x.pattern(3), -13);
        Check.due("1 set", Check.pattern(x, 3, "a"), 1);
        Check.due("199 sets", Check.pattern(x, 3, "b".repeat(199)), 199);
        Check.due("200 sets", Check.pattern(x, 3, "c".repeat(200)), 200);
        Check.due("201 sets", Check.pattern(x, 3, "d".repeat(201)), -14);
        Check.due("the 200 stay", x.has(3, 199, 'c'), 1);
        Check.due("200 sets of two bytes", Check.pattern(x, 3, "\\d".repeat(200)), 200);
        Check.due("the 200th", x.has(3, 199, 'd'), 1);

        Check.sentence("(none at first)");
        x = Check.withText("a");
        for (int p = 0; p < 8; p++) {
            Check.due("has", x.has(p, 0, 'a'), BAD);
            Check.due("find", x.find(p, 200, true), BAD);
        }
        Check.due("which", x.which(0, 1, true), NONE);
    }

    private static void elements() {
        Check.sentence(". is all bytes but 10");
        Check.dueSet(".", Check.allBytesBut("\n"));

        Check.sentence("\\ and a byte: that byte");
        for (String one : Check.allBytesBut("").split("")) {
            Check.dueSet("\\" + one, one);
        }

        Check.sentence("each other byte but [ ] \\ . stands for itself");
        for (String one : Check.allBytesBut("[]\\.").split("")) {
            Check.dueSet(one, one);
        }
        Check.dueSets("-^a-c", "-", "^", "a", "-", "c");
        Check.dueSets("[a]-[c]", "a", "-", "c");
        Check.dueSets("a^\\.^", "a", "^", ".", "^");
    }

    private static void bracketsAndItems() {
        Check.sentence("[ a perhaps ^ , one or more ITEMS, then ] : the bytes of the items");
        Check.dueSet("[a]", "a");
        Check.dueSet("[zaza]", "az");
        Check.dueSet("[a-cb-dx]", "abcdx");
        Check.dueSets("[a][^b][c]", "a", Check.allBytesBut("b"), "c");

        Check.sentence("(with ^ all others, 10 too, if no item has it)");
        Check.dueSet("[^a]", Check.allBytesBut("a"));
        Check.dueSet("[^a\n]", Check.allBytesBut("a\n"));
        Check.dueSet("[^\n-\n]", Check.allBytesBut("\n"));
        Check.dueSet("[^\n-~]", "");
        Check.dueSet("[^ -~]", "\n");
        Check.dueSet("[^^]", Check.allBytesBut("^"));
        Check.dueSet("[^^-b]", Check.allBytesBut("^_`ab"));
        Check.dueSet("[b^]", "^b");
        Check.dueSet("[\\^b]", "^b");
        Check.dueSet("[^\\^]", Check.allBytesBut("^"));

        Check.sentence("two with - between, all bytes from the first one to the second one (none, if that is less)");
        Check.dueSet("[a-b]", "ab");
        Check.dueSet("[a-a]", "a");
        Check.dueSet("[b-a]", "");
        Check.dueSet("[b-aq]", "q");
        Check.dueSet("[^b-a]", Check.allBytesBut(""));
        Check.dueSet("[\n-~]", Check.allBytesBut(""));
        Check.dueSet("[\n- ]", "\n ");
        Check.dueSet("[ -\n]", "");
        Check.dueSet("[~-\n]", "");
        Check.dueSet("[}-~]", "}~");
        Check.dueSet("[>-A]", ">?@A");
        Check.dueSet("[?-@]", "?@");

        Check.sentence("the bytes of an item are any but ] and \\ , or \\ and any byte");
        for (String one : Check.allBytesBut("]\\^").split("")) {
            Check.dueSet("[" + one + "]", one);
        }
        for (String one : Check.allBytesBut("").split("")) {
            Check.dueSet("[\\" + one + "]", one);
            Check.dueSet("[\\" + one + "-\\" + one + "]", one);
        }
        Check.dueSet("[[-\\]]", "[\\]");
        Check.dueSet("[\\\\-\\]]", "\\]");
        Check.dueSet("[\\a-\\c]", "abc");
        Check.dueSet("[.-0]", "./0");
        Check.dueSet("[\n\\\n]", "\n");
    }

    private static void dashes() {
        Check.sentence("a - that stands where an item begins is a byte like others");
        Check.dueSet("[-]", "-");
        Check.dueSet("[-a]", "-a");
        Check.dueSet("[^-]", Check.allBytesBut("-"));
        Check.dueSet("[^-a]", Check.allBytesBut("-a"));
        Check.dueSet("[--/]", "-./");
        Check.dueSet("[^--/]", Check.allBytesBut("-./"));
        Check.dueSet("[a-c-e]", "abc-e");
        Check.dueSet("[a-c--/]", "abc-./");
        Check.dueSet("[b-a-e]", "-e");
        Check.dueSet("[--\\/]", "-./");
        Check.dueSet("[---]", "-");

        Check.sentence("and so is one behind which the ] comes");
        Check.dueSet("[a-]", "-a");
        Check.dueSet("[\\a-]", "-a");
        Check.dueSet("[a-c-]", "abc-");
        Check.dueSet("[--]", "-");
        Check.dueSet("[^a-]", Check.allBytesBut("-a"));
        Check.dueSet("[+--]", "+,-");
        Check.dueSets("[a-]-z", "-a", "-", "z");
        Check.dueFault("[a-]]", 1, 4);
        Check.dueSet("[Z-\\]]", "Z[\\]");
        Check.dueSet("[a\\-]", "-a");
        Check.dueSet("[+\\--/]", "+-./");
    }

    private static void faultClosed() {
        Check.sentence("1 a ] that stands where an element begins");
        Check.dueFault("]", 1, 0);
        Check.dueFault("]]", 1, 0);
        Check.dueFault("a]", 1, 1);
        Check.dueFault(".]a", 1, 1);
        Check.dueFault("\\]]", 1, 2);
        Check.dueFault("[a]]", 1, 3);
        Check.dueFault("[[]]", 1, 3);
        Check.dueFault("[^a]]", 1, 4);
        Check.dueFault("[\\]]]", 1, 4);
        Check.dueFault("a".repeat(199) + "]", 1, 199);
        Check.dueFault("\\a".repeat(199) + "a]", 1, 399);
    }

    private static void faultNoItems() {
        Check.sentence("2 a [ without items (at the ] )");
        Check.dueFault("[]", 2, 1);
        Check.dueFault("[^]", 2, 2);
        Check.dueFault("[]]", 2, 1);
        Check.dueFault("[^]]", 2, 2);
        Check.dueFault("[]-a]", 2, 1);
        Check.dueFault("ab[]", 2, 3);
        Check.dueFault("[a][^]", 2, 5);
        Check.dueFault("a".repeat(199) + "[]", 2, 200);
        Check.dueFault("a".repeat(199) + "[^]", 2, 201);
    }

    private static void faultEnd() {
        Check.sentence("3 the tape's end where a byte must come (behind \\ , or in [ ] )");
        Check.dueFault("\\", 3, 1);
        Check.dueFault("a\\", 3, 2);
        Check.dueFault("\\\\\\", 3, 3);
        Check.dueFault("[", 3, 1);
        Check.dueFault("[^", 3, 2);
        Check.dueFault("[^^", 3, 3);
        Check.dueFault("[a", 3, 2);
        Check.dueFault("[-", 3, 2);
        Check.dueFault("[a-", 3, 3);
        Check.dueFault("[a-b", 3, 4);
        Check.dueFault("[\\", 3, 2);
        Check.dueFault("[\\]", 3, 3);
        Check.dueFault("[a-\\", 3, 4);
        Check.dueFault("[a-\\]", 3, 5);
        Check.dueFault("[" + "a".repeat(399), 3, 400);
        Check.dueFault("a".repeat(199) + "\\", 3, 200);
        Check.dueFault("a".repeat(199) + "[", 3, 200);

        Check.sentence("or where nothing was told");
        Check.dueFault("", 3, 0);
        EditFinder x = Check.made("", "a");
        Check.due("the tape is empty behind a pattern", x.pattern(0), -13);
        Check.due("place", x.place(), 0);
    }

    private static void faultTooMany() {
        Check.sentence("4 a 201st element");
        String full = "a".repeat(200);
        Check.due("200 elements", Check.pattern(new EditFinder(), 0, full), 200);
        Check.dueFault(full + "a", 4, 200);
        Check.dueFault(full + "\n", 4, 200);
        Check.dueFault(full + "[b]", 4, 200);
        Check.dueFault(full + "\\]", 4, 200);
        Check.dueFault("a".repeat(400), 4, 200);
        Check.dueFault("\\a".repeat(199) + "aa", 4, 399);
        Check.dueFault("[a-c]".repeat(49) + "a".repeat(152), 4, 396);
    }

    private static void firstFault() {
        Check.sentence("The first one counts");
        String full = "a".repeat(200);
        Check.dueFault("a][]", 1, 1);
        Check.dueFault("[]]", 2, 1);
        Check.dueFault("[]\\", 2, 1);
        Check.dueFault("]" + full + "a", 1, 0);
        Check.dueFault("[]" + full, 2, 1);
        Check.dueFault(full + "b]", 4, 200);
        Check.dueFault(full + "[]", 4, 200);
        Check.dueFault(full + "[", 4, 200);
        Check.dueFault(full + "\\", 4, 200);

        Check.sentence("of one place the lesser number");
        Check.dueFault(full + "]", 1, 200);
        Check.dueFault(full + "]]", 1, 200);
        Check.dueFault("\\a".repeat(199) + "a]", 1, 399);
    }

    private static void edits() {
        Check.sentence("a set stands for a byte that it has (no edit)");
        EditFinder x = Check.made("b\nq", "[a-c][^a].", "abc", "b");
        Check.due("each set has its byte", x.whole(0, 0, 3, false, 9), 0);

        Check.sentence("a byte stands where a set has it not (CHANGED)");
        Check.due("all bytes changed", x.whole(1, 0, 3, false, 9), 3);
        Check.due("one byte changed", x.whole(2, 1, 2, false, 9), 1);
        x = Check.made("x", "[b-a]");
        Check.due("a set without bytes", x.whole(0, 0, 1, true, 9), 1);
        Check.due("steps", x.find(0, 1, true), 1);
        Check.dueHit(x, 0, 1, 1, 1, "3");

        Check.sentence("a byte is there for no set (MORE); a set is there for no byte (LESS)");
        x = Check.made("abcd", "bc", "abcde", "qabcdq");
        Check.due("more at both ends", x.whole(0, 0, 4, false, 9), 2);
        Check.due("less at the end", x.whole(1, 0, 4, false, 9), 1);
        Check.due("less at both ends", x.whole(2, 0, 4, false, 9), 2);
        Check.due("no byte at all", x.whole(2, 4, 4, false, 9), 6);
    }

    private static void swapped() {
        Check.sentence("with SWAPS also two sets, one behind the other, for two bytes, one behind the other");
        EditFinder x = Check.made("ba-bxa", "ab", "axb", "abx");
        Check.due("swapped", x.whole(0, 0, 2, true, 9), 1);
        Check.due("without swaps", x.whole(0, 0, 2, false, 9), 2);
        Check.due("a byte between", x.whole(0, 3, 6, true, 9), 3);
        Check.due("a set and a byte between", x.whole(1, 3, 6, true, 9), 2);
        x = Check.made("bcacabba", "abc", "abca");
        Check.due("a byte stands for one set alone", x.whole(0, 3, 5, true, 9), 3);
        Check.due("bca", x.whole(0, 0, 3, true, 9), 2);
        Check.due("at the end", x.whole(1, 4, 6, true, 9), 2);
        x = Check.made("badc", "abcd");
        Check.due("two swaps, one edit for both each", x.whole(0, 0, 4, true, 9), 2);
        Check.due("one swap at the beginning", x.whole(0, 0, 2, true, 9), 3);

        Check.sentence("of which the first set has the second one and the second set the first one");
        x = Check.made("ba", "[a][b]", "[a][x]", "[x][b]", "[ab][b]", "[a-c][a-c]");
        Check.due("both have", x.whole(0, 0, 2, true, 9), 1);
        Check.due("the second has not", x.whole(1, 0, 2, true, 9), 2);
        Check.due("the first has not", x.whole(2, 0, 2, true, 9), 2);
        Check.due("one changed is one edit too", x.whole(3, 0, 2, true, 9), 1);
        Check.due("no edit is less than a swap", x.whole(4, 0, 2, true, 9), 0);
        Check.due("the second has not", Check.made("mbam", "ma[x]m").nearest(0, true, 0), 2);
        Check.due("the first has not", Check.made("mbam", "m[x]bm").nearest(0, true, 0), 2);
        Check.due("both have", Check.made("mbam", "mabm").nearest(0, true, 0), 1);
    }

    private static void hitPlaces() {
        Check.sentence("a place e (1 .. the text's length)");
        EditFinder x = Check.made("aba", "a");
        Check.due("hits", x.find(0, 0, false), 2);
        Check.due("the first place", x.hit(0, 0), 1);
        Check.due("the last place", x.hit(1, 0), 3);
        Check.due("no place 0, though no byte is needed", x.find(0, 1, false), 3);
        Check.due("the first place", x.hit(0, 0), 1);
        Check.due("the last place", x.hit(2, 0), 3);
        Check.due("an empty text has no place", Check.made("", "a").find(0, 1, false), 0);
        x = Check.made("b".repeat(1499) + "a", "a");
        Check.due("one hit", x.find(0, 0, false), 1);
        Check.dueHit(x, 0, 1500, 0, 1499, "0");

        Check.sentence("a place b (0 .. e)");
        x = Check.made("abab", "ab");
        x.find(0, 0, false);
        Check.due("begins at 0", x.hit(0, 2), 0);
        x = Check.made("a".repeat(1500), "b" + "a".repeat(199));
        Check.due("hits", x.find(0, 1, true), 1302);
        Check.due("the first one begins at 0", x.hit(0, 2), 0);
        Check.dueHit(x, 1301, 1500, 1, 1301, "3" + "0".repeat(199));

        Check.sentence("Hits are numbered from 0 on, by their places");
        x = Check.made("a-a-a", "a");
        Check.due("hits", x.find(0, 0, true), 3);
        Check.due("hit -1", x.hit(-1, 0), BAD);
        Check.due("hit 0", x.hit(0, 0), 1);
        Check.due("hit 1", x.hit(1, 0), 3);
        Check.due("hit 2", x.hit(2, 0), 5);
        Check.due("hit 3", x.hit(3, 0), BAD);
        x = Check.made("a".repeat(1500), "a");
        Check.due("each place a hit", x.find(0, 0, true), 1500);
        Check.due("the last one", x.hit(1499, 0), 1500);
        Check.due("none behind", x.hit(1500, 0), BAD);
    }

    private static void hitDistances() {
        Check.sentence("the pattern and the bytes b .. e - 1 being k apart at most");
        EditFinder x = Check.made("-aXbXcXd-", "abcd");
        Check.due("nearest", x.nearest(0, false, 0), 3);
        Check.due("one edit too few", x.find(0, 2, false), 0);
        Check.due("as many as need be, from a to d", x.find(0, 3, false), 7);
        x = Check.made("b".repeat(300), "a".repeat(200));
        Check.due("199 edits", x.find(0, 199, true), 0);
        Check.due("200 edits", x.find(0, 200, true), 300);

        Check.sentence("the least of these distances is the hit's");
        x = Check.made("abc", "abc");
        Check.due("hits", x.find(0, 200, false), 3);
        Check.dueHit(x, 0, 1, 2, 0, "033");
        Check.dueHit(x, 1, 2, 1, 0, "003");
        Check.dueHit(x, 2, 3, 0, 0, "000");

        Check.sentence("its BEGINNING the greatest b with that one");
        x = Check.made("aab", "ab");
        x.find(0, 1, false);
        Check.dueHit(x, 2, 3, 0, 1, "00");
        x = Check.made("xb", "ab");
        Check.due("hits", x.find(0, 1, true), 1);
        Check.dueHit(x, 0, 2, 1, 1, "30");
        x = Check.made("ba", "ab");
        Check.due("hits", x.find(0, 1, true), 2);
        Check.dueHit(x, 1, 2, 1, 1, "03");
        x = Check.made("xxx", "a");
        x.find(0, 1, true);
        Check.dueHit(x, 2, 3, 1, 3, "3");
        x = Check.made("aaa", "[ab][ab]");
        x.find(0, 2, true);
        Check.dueHit(x, 0, 1, 1, 0, "30");
        Check.dueHit(x, 2, 3, 0, 1, "00");
    }

    private static void hitsWithoutBytes() {
        Check.sentence("(Also b = e, if the pattern has not more than k sets.)");
        EditFinder x = Check.made("xyz", "ab");
        Check.due("one set more than k", x.find(0, 1, true), 0);
        Check.due("as many sets as k", x.find(0, 2, true), 3);
        for (int i = 0; i < 3; i++) {
            Check.dueHit(x, i, i + 1, 2, i + 1, "33");
        }
        Check.due("fewer sets than k", x.find(0, 3, true), 3);
        Check.dueHit(x, 2, 3, 2, 3, "33");
        x = Check.made("b".repeat(1500), "a".repeat(200));
        Check.due("201 sets would be too many, 200 are not", x.find(0, 200, false), 1500);
        Check.dueHit(x, 1499, 1500, 200, 1500, "3".repeat(200));
    }

    private static void steps() {
        Check.sentence("0 a set stands for a byte, 1 CHANGED, 2 MORE, 3 LESS, 4 SWAPPED");
        EditFinder x = Check.made("abXdefghYijknmop", "abcdefghijklmnop", "[a]");
        int last = x.find(0, 4, true) - 1;
        Check.dueHit(x, last, 16, 4, 0, "0010000020003400");

        Check.sentence("from its beginning to its end, one by one");
        x = Check.made("--abXcd", "abcd");
        last = x.find(0, 1, false) - 1;
        Check.dueHit(x, last, 7, 1, 2, "00200");
        x.find(0, 0, false);
        Check.due("no hit, no step", x.step(0, 0), BAD);

        // with a byte more it would be nearer to leave the first half of the sets out
        String letters = Check.allBytesBut("\n");
        String told = "\\" + String.join("\\", letters.split(""));
        x = Check.made(letters + "\n".repeat(94) + letters, told + told);
        last = x.find(0, 94, true) - 1;
        Check.dueHit(x, last, 284, 94, 0, "0".repeat(95) + "2".repeat(94) + "0".repeat(95));

        Check.sentence("as many edits as its distance");
        x = Check.made("abcdabdcacbd", "abcd");
        int count = x.find(0, 4, true);
        Check.due("hits", count, 12);
        for (int i = 0; i < count; i++) {
            int edits = 0;
            for (int j = 0; j < x.hit(i, 3); j++) {
                edits += x.step(i, j) == 0 ? 0 : 1;
            }
            Check.due("edits of hit " + i, edits, x.hit(i, 1));
        }
    }

    private static void stepOrder() {
        Check.sentence("the last step is, if possible, 0 or 1 (whatever the byte asks for)");
        // 02 begins at 0 as well, the least distance is 1: changed or more
        EditFinder x = Check.made("ax", "ab");
        Check.due("hits", x.find(0, 1, false), 2);
        Check.dueHit(x, 1, 2, 1, 0, "01");
        // the last byte a may stand for either set: with the last one the step is 0
        x = Check.made("aa", "aaa");
        Check.due("hits", x.find(0, 1, false), 1);
        Check.dueHit(x, 0, 2, 1, 0, "300");
        x = Check.made("pqabrs", "pqbrs");
        Check.due("hits", x.find(0, 1, false), 1);
        Check.dueHit(x, 0, 6, 1, 0, "002000");
        // swapped or changed twice: two edits in both if another byte is off
        x = Check.made("pqxyaba12", "pqxybab12");
        x.find(0, 2, true);
        Check.dueHit(x, 0, 9, 2, 0, "00004100");

        Check.sentence("else 4");
        // at its end 4 before 2 and 3: changing is two edits
        x = Check.made("pqrba", "pqrab");
        int last = x.find(0, 1, true) - 1;
        Check.dueHit(x, last, 5, 1, 0, "0004");
        x = Check.made("pqrstbauv", "pqrstabuv");
        Check.due("hits", x.find(0, 1, true), 1);
        Check.dueHit(x, 0, 9, 1, 0, "00000400");

        // 24 or 102: a byte may be one too many, or another one behind it
        x = Check.made("pqrsxba", "pqrsab");
        last = x.find(0, 2, true) - 1;
        Check.dueHit(x, last, 7, 2, 0, "000024");
        // 34 or 103: a set may be one too many, or another one behind it
        x = Check.made("pqrsba", "pqrsxab");
        last = x.find(0, 2, true) - 1;
        Check.dueHit(x, last, 6, 2, 0, "000034");

        Check.sentence("else 2, else 3");
        // more and then less, or less and then more: from the end 2 comes first
        x = Check.made("pqxyababa12", "pqxybabab12");
        Check.due("hits", x.find(0, 2, false), 1);
        Check.dueHit(x, 0, 11, 2, 0, "000030000200");
        x = Check.made("pqrstbc", "pqrstabc");
        last = x.find(0, 1, false) - 1;
        Check.dueHit(x, last, 7, 1, 0, "00000300");

        Check.sentence("then the step before it likewise, and so on");
        x = Check.made("ayb", "axxb");
        x.find(0, 2, false);
        Check.dueHit(x, 0, 3, 2, 0, "0310");
        x = Check.made("pqaxxbcdp", "pqaybcdp");
        x.find(0, 2, false);
        Check.dueHit(x, 0, 9, 2, 0, "000210000");
        x = Check.made("pqaaars", "pqaars");
        Check.due("hits", x.find(0, 1, false), 1);
        Check.dueHit(x, 0, 7, 1, 0, "0020000");
        x = Check.made("pqars", "pqaars");
        Check.due("hits", x.find(0, 1, false), 1);
        Check.dueHit(x, 0, 5, 1, 0, "003000");
    }

    private static void lineBounds() {
        Check.sentence("LINES of the text are the bytes between two 10 (not with them)");
        Check.dueLines(Check.made("x\na\nx", "a"), 0, false, 1);
        Check.dueLines(Check.made("x\nab\nx", "[\n]ab"), 0, false);
        Check.dueLines(Check.made("x\nab\nx", "ab[\n]"), 0, false);
        Check.dueLines(Check.made("x\nab\nx", "ab[\n]"), 1, false, 1);
        Check.dueLines(Check.made("a\n\na", "[\n]"), 0, false);

        Check.sentence("before the first and behind the last one");
        Check.dueLines(Check.made("a\nx\nx", "a"), 0, false, 0);
        Check.dueLines(Check.made("x\nx\na", "a"), 0, false, 2);
        Check.dueLines(Check.made("\na\n", "a"), 0, false, 1);
        Check.dueLines(Check.made("\n".repeat(1499) + "a", "a"), 0, false, 1499);
        Check.dueLines(Check.made("a" + "\n".repeat(1499), "a"), 0, false, 0);

        Check.sentence("(there is one always)");
        Check.dueLines(Check.made("a", "a"), 0, false, 0);
        Check.dueLines(Check.made("", "a"), 0, false);
        Check.dueLines(Check.made("a".repeat(1500), "a"), 0, false, 0);
    }

    private static void linesAlone() {
        Check.sentence("A line HAS a hit, if its bytes alone, as a text, have one");
        Check.dueLines(Check.made("a\nb", "ab"), 0, true);
        Check.dueLines(Check.made("a\nb", "a.b"), 0, true);
        Check.dueLines(Check.made("a\nb", "a[^c]b"), 0, true);
        Check.dueLines(Check.made("mb\nan", "mabn"), 1, true);
        Check.dueLines(Check.made("mban-p", "mabnop"), 2, true, 0);
        Check.dueLines(Check.made("mb\nan-p", "mabnop"), 2, true);
        Check.dueLines(Check.made("b\na\nab", "ab"), 0, true, 2);
        // a line without bytes has no place, so it has no hit
        Check.dueLines(Check.made("\nx\n\n", "a"), 1, true, 1);
        Check.dueLines(Check.made("\n\n\n", "a"), 200, true);
        Check.dueLines(Check.made("", "a"), 200, true);
        Check.dueLines(Check.made("abc\nabc", "abc"), 0, true, 0, 1);
        Check.dueLines(Check.made("aaa", "a"), 0, true, 0);
    }

    private static void replacing() {
        Check.sentence("from the left, the hit with the least place e goes first");
        // abc itself would be nearer, but ab comes before it
        Check.dueReplaced("-abc-", "abc", 1, false, "*", 1, "-*c-");
        Check.dueReplaced("aaa", "aa", 0, false, "*", 1, "*a");

        Check.sentence("then in the bytes behind it, as a text of their own, again, and so on");
        Check.dueReplaced("aaaa", "aa", 0, false, "*", 2, "**");
        Check.dueReplaced("ababa", "aba", 0, false, "*", 1, "*ba");
        Check.dueReplaced("bab", "bab", 1, true, "", 1, "b");
        // no swap with a byte before the rest
        Check.dueReplaced("abbb", "abbb", 2, true, "*", 2, "**");
        Check.dueReplaced("babab", "aabb", 2, true, "*", 2, "b**");
        Check.dueReplaced("ab", "a", 0, false, "aa", 1, "aab");
        Check.dueReplaced("xab", "ab", 0, false, "a", 1, "xa");
        Check.dueReplaced("a".repeat(1500), "a", 0, false, "b", 1500, "b".repeat(1500));

        Check.sentence("the bytes from its beginning up to e are replaced by the tape's");
        Check.dueReplaced("xaby", "ab", 0, false, "1234", 1, "x1234y");
        Check.dueReplaced("xaby", "ab", 0, false, "", 1, "xy");
        Check.dueReplaced("ab", "ab", 0, false, "", 1, "");
        Check.dueReplaced("a" + "x".repeat(1499), "a", 0, false, "y", 1, "y" + "x".repeat(1499));
        Check.dueReplaced("x".repeat(1499) + "a", "a", 0, false, "", 1, "x".repeat(1499));
        Check.dueReplaced("a", "a", 0, false, "b".repeat(400), 1, "b".repeat(400));
    }

    private static void replacingWithoutBytes() {
        Check.sentence("Of hits with b = e none is taken");
        Check.dueReplaced("xyz", "a", 1, false, "*", 0, "xyz");
        Check.dueReplaced("xaz", "a", 1, false, "*", 1, "x*z");
        Check.dueReplaced("xyz", "ab", 2, true, "*", 0, "xyz");
        Check.dueReplaced("xyz", "ab", 200, true, "*", 0, "xyz");
        Check.dueReplaced("xyb", "ab", 2, true, "*", 1, "xy*");
        Check.dueReplaced("", "a", 1, true, "*", 0, "");
    }

    private static void twoParts() {
        Check.sentence("TWO PARTS of the text, each as a row of bytes, are apart as bytes and sets of one byte each are");
        EditFinder x = Check.withText(".a[a]\\a\nabba");
        Check.due(". is no set of all bytes", x.apart(0, 1, 1, 2, true, 9), 1);
        Check.due("[a] is three bytes", x.apart(2, 5, 1, 2, true, 9), 2);
        Check.due("\\a is two bytes", x.apart(5, 7, 6, 7, true, 9), 1);
        Check.due("10 is one too", x.apart(7, 8, 7, 8, true, 9), 0);
        Check.due("swapped", x.apart(8, 10, 10, 12, true, 9), 1);
        Check.due("not swapped", x.apart(8, 10, 10, 12, false, 9), 2);
        Check.due("no bytes", x.apart(0, 0, 12, 12, false, 0), 0);
        Check.due("no bytes and all", x.apart(0, 0, 0, 12, false, 12), 12);
        Check.due("all and no bytes", x.apart(0, 12, 12, 12, false, 12), 12);
        x = Check.withText("ab".repeat(750));
        Check.due("1500 and 1500", x.apart(0, 1500, 0, 1500, true, 0), 0);
        Check.due("1500 and 1500, limit 2000", x.apart(0, 1500, 0, 1500, true, 2000), 0);
        Check.due("1499 and 1499", x.apart(0, 1499, 1, 1500, true, 2000), 2);
        Check.due("1499 and 1500", x.apart(1, 1500, 0, 1500, true, 2000), 1);
        String all = Check.allBytesBut("");
        x = Check.withText(all + all);
        for (int i = 0; i < 95; i++) {
            Check.due("a byte and itself", x.apart(i, i + 1, 96 + i, 97 + i, false, 9), 0);
            Check.due("a byte and the next one", x.apart(i, i + 1, 97 + i, 98 + i, false, 9), 1);
        }
    }

    private static void badNumbers() {
        Check.sentence("In all calls BAD: a number is not as said");
        EditFinder x = Check.made("abcd", "ab");
        Check.due("find", x.find(0, 0, false), 1);
        for (int below : new int[] {-1, LEAST}) {
            Check.due("type n", x.type('a', below), BAD);
            Check.due("pattern", x.pattern(below), BAD);
            Check.due("has i", x.has(0, below, 'a'), BAD);
            Check.due("has b", x.has(0, 0, below), BAD);
            Check.due("insert", x.insert(below), BAD);
            Check.due("find k", x.find(0, below, false), BAD);
            Check.due("hit what", x.hit(0, below), BAD);
            Check.due("nearest what", x.nearest(0, false, below), BAD);
            Check.due("lines k", x.lines(0, below, false), BAD);
            Check.due("replace k", x.replace(0, below, false), BAD);
            Check.due("whole limit", x.whole(0, 0, 2, false, below), BAD);
            Check.due("apart limit", x.apart(0, 2, 0, 2, false, below), BAD);
        }
        int[] tops = {8, 7, 1, 126, 4, 200, 3, 1, 200, 200, 2000, 2000};
        for (int above : new int[] {1, 2, GREATEST}) {
            int[] wrong = new int[tops.length];
            for (int i = 0; i < tops.length; i++) {
                wrong[i] = above == GREATEST ? GREATEST : tops[i] + above;
            }
            Check.due("type n", x.type(Check.word("aaaaaaaa"), wrong[0]), BAD);
            Check.due("pattern", x.pattern(wrong[1]), BAD);
            Check.due("has i", x.has(0, wrong[2], 'a'), BAD);
            Check.due("has b", x.has(0, 0, wrong[3]), BAD);
            Check.due("insert", x.insert(wrong[4]), BAD);
            Check.due("find k", x.find(0, wrong[5], false), BAD);
            Check.due("hit what", x.hit(0, wrong[6]), BAD);
            Check.due("nearest what", x.nearest(0, false, wrong[7]), BAD);
            Check.due("lines k", x.lines(0, wrong[8], false), BAD);
            Check.due("replace k", x.replace(0, wrong[9], false), BAD);
            Check.due("whole limit", x.whole(0, 0, 2, false, wrong[10]), BAD);
            Check.due("apart limit", x.apart(0, 2, 0, 2, false, wrong[11]), BAD);
        }
    }

    private static void badPatterns() {
        Check.sentence("also a pattern that is not there");
        EditFinder x = Check.withText("abcd");
        Check.pattern(x, 3, "a");
        Check.due("a fault makes no pattern", Check.pattern(x, 4, "b]"), -11);
        for (int p : new int[] {LEAST, -1, 0, 2, 4, 7, 8, 9, 400, GREATEST}) {
            Check.due("has " + p, x.has(p, 0, 'a'), BAD);
            Check.due("find " + p, x.find(p, 0, false), BAD);
            Check.due("nearest " + p, x.nearest(p, false, 0), BAD);
            Check.due("lines " + p, x.lines(p, 0, false), BAD);
            Check.due("replace " + p, x.replace(p, 0, false), BAD);
            Check.due("whole " + p, x.whole(p, 0, 0, false, 9), BAD);
        }
        Check.due("pattern 3 is there", x.find(3, 0, false), 1);
    }

    private static void badParts() {
        Check.sentence("a part from .. to without 0 <= from <= to <= the text's length");
        EditFinder x = Check.made("abcd", "ab");
        int[][] parts = {{-1, 0}, {-1, 4}, {-1, -1}, {1, 0}, {4, 3}, {0, 5}, {4, 5}, {5, 5}, {5, 4}, {0, -1}, {0, 1500},
            {LEAST, 0}, {LEAST, GREATEST}, {LEAST, LEAST}, {0, GREATEST}, {GREATEST, GREATEST}, {GREATEST, LEAST}};
        for (int[] part : parts) {
            String call = " " + part[0] + " .. " + part[1];
            Check.due("cut" + call, x.cut(part[0], part[1]), BAD);
            Check.due("whole" + call, x.whole(0, part[0], part[1], true, 9), BAD);
            Check.due("which" + call, x.which(part[0], part[1], true), BAD);
            Check.due("apart" + call, x.apart(part[0], part[1], 0, 4, true, 9), BAD);
            Check.due("apart other" + call, x.apart(0, 4, part[0], part[1], true, 9), BAD);
        }
        for (int at = 0; at <= 4; at++) {
            Check.due("whole", x.whole(0, at, at, true, 9), 2);
            Check.due("which", x.which(at, at, true), 0);
            Check.due("apart", x.apart(at, at, at, at, true, 9), 0);
            Check.due("cut", x.cut(at, at), 4);
        }
        Check.due("all", x.apart(0, 4, 0, 4, true, 0), 0);
        Check.due("the length is the text's now", x.cut(0, 2), 2);
        Check.due("whole", x.whole(0, 0, 3, true, 9), BAD);
        Check.due("apart", x.apart(0, 2, 3, 3, true, 9), BAD);
        x = Check.made("", "ab");
        Check.due("an empty text, 0 .. 0", x.whole(0, 0, 0, true, 9), 2);
        Check.due("an empty text, 0 .. 1", x.whole(0, 0, 1, true, 9), BAD);
        Check.due("an empty text, 0 .. 1", x.cut(0, 1), BAD);
    }

    private static void badChangesNothing() {
        Check.sentence("BAD calls change nothing: that was not BAD");
        EditFinder x = Check.made("ab\nab", "ab");
        Check.due("a fault", Check.pattern(x, 1, "abc]"), -11);
        Check.due("find", x.find(0, 0, false), 2);
        Check.due("lines", x.lines(0, 0, false), 2);
        Check.type(x, "xy");
        x.type(0, 1);
        x.pattern(8);
        x.insert(6);
        x.cut(0, 6);
        x.find(0, 201, false);
        x.find(1, 0, false);
        x.lines(0, -1, false);
        x.lines(2, 0, false);
        x.replace(0, -1, false);
        x.replace(1, 0, false);
        Check.dueText("BAD", x, "ab\nab");
        Check.due("place", x.place(), 3);
        Check.dueHit(x, 1, 5, 0, 3, "00");
        Check.due("line", x.line(1), 1);
        Check.due("the tape", x.insert(5), 7);
        Check.dueText("the tape", x, "ab\nabxy");
        Check.due("undo of the insert", x.undo(), 5);
        Check.due("undo of the first insert", x.undo(), 0);
        Check.due("no more", x.undo(), NONE);
    }
}
