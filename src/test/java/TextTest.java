/** Promises 6 to 10: insert, cut, undo, byteAt, length. */
public final class TextTest {
    private static final int NONE = EditFinder.NONE;
    private static final int BAD = EditFinder.BAD;
    private static final int REFUSED = EditFinder.REFUSED;

    public static void main(String[] args) {
        inserting();
        insertingToTheEnd();
        cutting();
        bytes();
        undoing();
        undoingFive();
        undoingAndChanging();
        undoingReplaced();
        Check.finish("TextTest");
    }

    private static void inserting() {
        EditFinder x = Check.withText("abc");
        Check.type(x, "12");
        Check.due("insert(1)", x.insert(1), 5);
        Check.dueText("insert(1)", x, "a12bc");
        Check.type(x, "\n~");
        Check.due("insert(5)", x.insert(5), 7);
        Check.dueText("insert(5)", x, "a12bc\n~");
        Check.type(x, "^");
        Check.due("insert(0)", x.insert(0), 8);
        Check.dueText("insert(0)", x, "^a12bc\n~");
        Check.due("an empty tape", x.insert(3), 8);
        Check.type(x, "zz");
        Check.due("insert(9)", x.insert(9), BAD);
        Check.due("insert(-1)", x.insert(-1), BAD);
        Check.due("insert(least)", x.insert(Integer.MIN_VALUE), BAD);
        Check.due("insert(greatest)", x.insert(Integer.MAX_VALUE), BAD);
        Check.dueText("BAD", x, "^a12bc\n~");
        Check.due("the tape stays if BAD", x.insert(8), 10);
        Check.dueText("insert(8)", x, "^a12bc\n~zz");
    }

    private static void insertingToTheEnd() {
        EditFinder x = Check.withText("a".repeat(1498));
        Check.type(x, "xyz");
        Check.due("1501 bytes", x.insert(1498), REFUSED);
        Check.due("length", x.length(), 1498);
        Check.due("BAD goes before REFUSED", x.insert(1499), BAD);
        Check.due("one less", x.cut(0, 1), 1497);
        Check.due("the tape stayed", x.insert(1), 1500);
        Check.due("byteAt(1)", x.byteAt(1), 'x');
        Check.due("byteAt(3)", x.byteAt(3), 'z');
        Check.due("byteAt(1499)", x.byteAt(1499), 'a');
        Check.due("byteAt(1500)", x.byteAt(1500), NONE);
        Check.due("an empty tape fits", x.insert(1500), 1500);
        Check.type(x, "b");
        Check.due("1501 again", x.insert(0), REFUSED);
        Check.due("undo of the empty one", x.undo(), 1500);
        Check.due("undo of the tape", x.undo(), 1497);
        Check.due("undo of the cut", x.undo(), 1498);
    }

    private static void cutting() {
        EditFinder x = Check.withText("abcdefgh");
        Check.due("cut(2, 4)", x.cut(2, 4), 6);
        Check.dueText("cut(2, 4)", x, "abefgh");
        Check.due("cut(0, 1)", x.cut(0, 1), 5);
        Check.due("cut(4, 5)", x.cut(4, 5), 4);
        Check.dueText("both ends", x, "befg");
        Check.due("cut(4, 4)", x.cut(4, 4), 4);
        Check.due("cut(0, 0)", x.cut(0, 0), 4);
        int[][] bad = {{-1, 2}, {2, 1}, {0, 5}, {5, 5}, {5, 4}, {-1, -1},
            {Integer.MIN_VALUE, Integer.MAX_VALUE}, {0, Integer.MAX_VALUE}, {Integer.MAX_VALUE, Integer.MAX_VALUE},
            {0, Integer.MIN_VALUE}};
        for (int[] part : bad) {
            Check.due("cut(" + part[0] + ", " + part[1] + ")", x.cut(part[0], part[1]), BAD);
        }
        Check.dueText("BAD", x, "befg");
        Check.due("all", x.cut(0, 4), 0);
        Check.due("none left", x.byteAt(0), NONE);
        Check.due("an empty text", x.cut(0, 0), 0);
    }

    private static void bytes() {
        EditFinder x = Check.withText("a\n~ ");
        Check.due("length", x.length(), 4);
        int[] due = {'a', 10, 126, 32, NONE};
        for (int i = 0; i < due.length; i++) {
            Check.due("byteAt(" + i + ")", x.byteAt(i), due[i]);
        }
        Check.due("byteAt(-1)", x.byteAt(-1), NONE);
        Check.due("byteAt(least)", x.byteAt(Integer.MIN_VALUE), NONE);
        Check.due("byteAt(greatest)", x.byteAt(Integer.MAX_VALUE), NONE);
        x.cut(1, 4);
        Check.due("bytes that were cut", x.byteAt(1), NONE);
    }

    private static void undoing() {
        EditFinder x = Check.withText("abc");
        Check.due("cut", x.cut(1, 2), 2);
        Check.type(x, "xy");
        Check.due("undo", x.undo(), 3);
        Check.dueText("undo", x, "abc");
        Check.due("the tape is not the text", x.insert(3), 5);
        Check.dueText("insert", x, "abcxy");
        Check.due("undo of the insert", x.undo(), 3);
        Check.due("undo of the first insert", x.undo(), 0);
        Check.due("none", x.undo(), NONE);
        Check.due("still none", x.undo(), NONE);
        Check.due("length", x.length(), 0);
        Check.due("what was undone was not typed again", x.type('a', 1), 1);
    }

    private static void undoingFive() {
        EditFinder x = new EditFinder();
        for (int n = 1; n <= 7; n++) {
            Check.type(x, "" + n);
            Check.due("insert " + n, x.insert(0), n);
        }
        Check.due("BAD is no change", x.cut(9, 9), BAD);
        String[] due = {"654321", "54321", "4321", "321", "21"};
        for (String text : due) {
            Check.due("undo", x.undo(), text.length());
            Check.dueText("undo", x, text);
        }
        Check.due("no sixth", x.undo(), NONE);
        Check.dueText("no sixth", x, "21");
    }

    private static void undoingAndChanging() {
        EditFinder x = new EditFinder();
        for (int n = 1; n <= 6; n++) {
            Check.type(x, "" + n);
            x.insert(n - 1);
        }
        Check.due("undo", x.undo(), 5);
        Check.due("undo", x.undo(), 4);
        Check.due("cut nothing", x.cut(2, 2), 4);
        Check.due("cut", x.cut(0, 3), 1);
        String[] due = {"1234", "1234", "123", "12", "1"};
        for (String text : due) {
            Check.due("undo", x.undo(), text.length());
            Check.dueText("undo", x, text);
        }
        Check.due("none", x.undo(), NONE);
        Check.type(x, "z");
        Check.due("insert", x.insert(0), 2);
        Check.due("undo", x.undo(), 1);
        Check.due("none", x.undo(), NONE);
    }

    private static void undoingReplaced() {
        EditFinder x = Check.withText("abab");
        Check.pattern(x, 0, "a");
        Check.type(x, "xyz");
        Check.due("replace", x.replace(0, 0, false), 2);
        Check.dueText("replace", x, "xyzbxyzb");
        Check.due("a replace that changes nothing", x.replace(0, 0, false), 0);
        Check.due("a replace that is BAD", x.replace(1, 0, false), BAD);
        Check.due("undo of nothing", x.undo(), 8);
        Check.due("undo of the replace", x.undo(), 4);
        Check.dueText("undo", x, "abab");
        Check.type(x, "a".repeat(400));
        Check.due("insert", x.insert(0), 404);
        Check.type(x, "aaaa");
        Check.due("a replace that is refused", x.replace(0, 0, false), REFUSED);
        Check.due("undo of the insert", x.undo(), 4);
        Check.due("undo of the first insert", x.undo(), 0);
        Check.due("none", x.undo(), NONE);
    }
}
