import java.util.ArrayDeque;
import java.util.ArrayList;
import java.util.BitSet;
import java.util.Collections;
import java.util.Deque;
import java.util.List;
import java.util.regex.Matcher;
import java.util.regex.Pattern;

/** The document said again in the plainest way, by its definitions, however slow: what EditFinder is held against. */
final class PlainFinder {
    private static final int NONE = -1;
    private static final int BAD = -2;
    private static final int REFUSED = -3;
    private static final int ABOVE = -4;

    private static final String ITEM_BYTE = "(?:\\\\.|[^\\]\\\\])";
    private static final Pattern ITEM = Pattern.compile("(" + ITEM_BYTE + ")(?:-(?!\\])(" + ITEM_BYTE + "))?+", Pattern.DOTALL);
    private static final Pattern ELEMENT =
        Pattern.compile("\\\\(.)|\\[(\\^?+)((?:" + ITEM.pattern() + ")++)\\]|([^\\[\\]\\\\])", Pattern.DOTALL);

    private record Hit(int e, int distance, int beginning, String steps) {
    }

    private String tape = "";
    private String text = "";
    private final List<List<BitSet>> patterns = new ArrayList<>();
    private int faultPlace = NONE;
    private final Deque<String> undos = new ArrayDeque<>();
    private List<Hit> hits = new ArrayList<>();
    private List<Integer> lineNumbers = new ArrayList<>();

    PlainFinder() {
        for (int p = 0; p < 8; p++) {
            patterns.add(List.of());
        }
    }

    static boolean isByte(int b) {
        return b == 10 || b >= 32 && b <= 126;
    }

    int type(long w, int n) {
        if (n < 1 || n > 8) {
            return BAD;
        }
        String more = "";
        for (int i = 0; i < n; i++) {
            int b = (int) (w >> 8 * i & 0xFF);
            if (!isByte(b)) {
                return BAD;
            }
            more += (char) b;
        }
        if (tape.length() + n > 400) {
            return REFUSED;
        }
        tape += more;
        return tape.length();
    }

    int pattern(int p) {
        if (p < 0 || p > 7) {
            return BAD;
        }
        String told = tape;
        tape = "";
        faultPlace = NONE;
        List<BitSet> sets = new ArrayList<>();
        Matcher element = ELEMENT.matcher(told);
        int at = 0;
        while (at < told.length() && sets.size() < 200 && element.region(at, told.length()).lookingAt()) {
            sets.add(setOf(element));
            at = element.end();
        }
        if (at == told.length() && at > 0) {
            patterns.set(p, sets);
            return sets.size();
        }
        return -10 - faultAt(told, at, sets.size());
    }

    private int faultAt(String told, int at, int count) {
        faultPlace = at;
        if (told.startsWith("]", at)) {
            return 1;
        }
        if (count == 200) {
            return 4;
        }
        int first = told.startsWith("[^", at) ? at + 2 : at + 1;
        if (told.startsWith("[", at) && told.startsWith("]", first)) {
            faultPlace = first;
            return 2;
        }
        faultPlace = told.length();
        return 3;
    }

    private static BitSet setOf(Matcher element) {
        BitSet set = new BitSet();
        if (element.group(1) != null) {
            set.set(element.group(1).charAt(0));
        } else if (element.group(3) != null) {
            Matcher item = ITEM.matcher(element.group(3));
            while (item.find()) {
                int first = lastChar(item.group(1));
                int second = item.group(2) == null ? first : lastChar(item.group(2));
                for (int b = first; b <= second; b++) {
                    set.set(b);
                }
            }
            if (!element.group(2).isEmpty()) {
                set.flip(0, 256);
            }
        } else if (element.group().equals(".")) {
            set.set(0, 256);
            set.clear(10);
        } else {
            set.set(element.group().charAt(0));
        }
        return set;
    }

    private static int lastChar(String s) {
        return s.charAt(s.length() - 1);
    }

    int place() {
        return faultPlace;
    }

    private boolean isThere(int p) {
        return p >= 0 && p <= 7 && !patterns.get(p).isEmpty();
    }

    int has(int p, int i, int b) {
        if (!isThere(p) || i < 0 || i >= patterns.get(p).size() || !isByte(b)) {
            return BAD;
        }
        return patterns.get(p).get(i).get(b) ? 1 : 0;
    }

    private void become(String changed) {
        undos.push(text);
        if (undos.size() > 5) {
            undos.removeLast();
        }
        text = changed;
    }

    int insert(int at) {
        if (at < 0 || at > text.length()) {
            return BAD;
        }
        if (text.length() + tape.length() > 1500) {
            return REFUSED;
        }
        become(text.substring(0, at) + tape + text.substring(at));
        tape = "";
        return text.length();
    }

    private boolean isPart(int from, int to) {
        return 0 <= from && from <= to && to <= text.length();
    }

    int cut(int from, int to) {
        if (!isPart(from, to)) {
            return BAD;
        }
        become(text.substring(0, from) + text.substring(to));
        return text.length();
    }

    int undo() {
        if (undos.isEmpty()) {
            return NONE;
        }
        text = undos.pop();
        return text.length();
    }

    int byteAt(int i) {
        return i < 0 || i >= text.length() ? NONE : text.charAt(i);
    }

    int length() {
        return text.length();
    }

    String text() {
        return text;
    }

    /** distance[n][m]: the last n sets and the last m bytes. */
    private static int[][] distancesFromBehind(List<BitSet> sets, String bytes, boolean swaps) {
        int rows = sets.size();
        int columns = bytes.length();
        int[][] d = new int[rows + 1][columns + 1];
        for (int n = 0; n <= rows; n++) {
            for (int m = 0; m <= columns; m++) {
                if (n == 0 || m == 0) {
                    d[n][m] = n + m;
                    continue;
                }
                BitSet set = sets.get(rows - n);
                char b = bytes.charAt(columns - m);
                d[n][m] = Math.min(Math.min(d[n - 1][m], d[n][m - 1]) + 1, d[n - 1][m - 1] + (set.get(b) ? 0 : 1));
                if (swaps && n > 1 && m > 1 && set.get(bytes.charAt(columns - m + 1)) && sets.get(rows - n + 1).get(b)) {
                    d[n][m] = Math.min(d[n][m], d[n - 2][m - 2] + 1);
                }
            }
        }
        return d;
    }

    private static int distance(List<BitSet> sets, String bytes, boolean swaps) {
        return distancesFromBehind(sets, bytes, swaps)[sets.size()][bytes.length()];
    }

    private static Hit hitAt(List<BitSet> sets, String bytes, int e, int k, boolean swaps) {
        // Further back there are more edits than without any byte.
        int furthest = Math.max(0, e - 2 * sets.size());
        int[] distances = distancesFromBehind(sets, bytes.substring(furthest, e), swaps)[sets.size()];
        int b = e;
        for (int other = e; other >= furthest; other--) {
            if (distances[e - other] < distances[e - b]) {
                b = other;
            }
        }
        return distances[e - b] <= k ? new Hit(e, distances[e - b], b, null) : null;
    }

    /** All ways with so many edits; the one that the document likes best is kept. */
    private static final class Ways {
        private final List<BitSet> sets;
        private final String bytes;
        private final boolean swaps;
        private String best = null;

        Ways(List<BitSet> sets, String bytes, boolean swaps) {
            this.sets = sets;
            this.bytes = bytes;
            this.swaps = swaps;
        }

        void go(int i, int j, int left, String way) {
            if (left < 0 || Math.abs(sets.size() - i - (bytes.length() - j)) > left) {
                return;
            }
            if (i == sets.size() && j == bytes.length()) {
                if (left == 0 && (best == null || rank(way).compareTo(rank(best)) < 0)) {
                    best = way;
                }
                return;
            }
            boolean set = i < sets.size();
            boolean one = j < bytes.length();
            if (set && one) {
                boolean same = sets.get(i).get(bytes.charAt(j));
                go(i + 1, j + 1, same ? left : left - 1, way + (same ? '0' : '1'));
            }
            if (swaps && i + 1 < sets.size() && j + 1 < bytes.length()
                && sets.get(i).get(bytes.charAt(j + 1)) && sets.get(i + 1).get(bytes.charAt(j))) {
                go(i + 2, j + 2, left - 1, way + '4');
            }
            if (one) {
                go(i, j + 1, left - 1, way + '2');
            }
            if (set) {
                go(i + 1, j, left - 1, way + '3');
            }
        }

        /** From the last step on: along, swapped, more, less. */
        private static String rank(String way) {
            return new StringBuilder(way).reverse().toString()
                .replace('3', 'd').replace('2', 'c').replace('4', 'b').replace('1', 'a').replace('0', 'a');
        }
    }

    /** For ways that are too many: from the end on, the step that is liked best and leaves as few edits as it must. */
    private static String longWay(List<BitSet> sets, String bytes, boolean swaps) {
        List<BitSet> turned = new ArrayList<>(sets);
        Collections.reverse(turned);
        int[][] heads = distancesFromBehind(turned, new StringBuilder(bytes).reverse().toString(), swaps);
        StringBuilder way = new StringBuilder();
        int i = sets.size();
        int j = bytes.length();
        while (i > 0 || j > 0) {
            boolean both = i > 0 && j > 0;
            boolean same = both && sets.get(i - 1).get(bytes.charAt(j - 1));
            boolean swap = swaps && i > 1 && j > 1
                && sets.get(i - 1).get(bytes.charAt(j - 2)) && sets.get(i - 2).get(bytes.charAt(j - 1));
            int left = heads[i][j];
            if (both && heads[i - 1][j - 1] == left - (same ? 0 : 1)) {
                way.append(same ? '0' : '1');
            } else if (swap && heads[i - 2][j - 2] == left - 1) {
                way.append('4');
            } else {
                way.append(j > 0 && heads[i][j - 1] == left - 1 ? '2' : '3');
            }
            char step = way.charAt(way.length() - 1);
            i -= step == '4' ? 2 : step == '2' ? 0 : 1;
            j -= step == '4' ? 2 : step == '3' ? 0 : 1;
        }
        return way.reverse().toString();
    }

    private static String steps(List<BitSet> sets, String bytes, boolean swaps, int edits) {
        if (sets.size() > 7) {
            return longWay(sets, bytes, swaps);
        }
        Ways ways = new Ways(sets, bytes, swaps);
        ways.go(0, 0, edits, "");
        return ways.best;
    }

    private boolean mayFind(int p, int k) {
        return isThere(p) && k >= 0 && k <= 200;
    }

    int find(int p, int k, boolean swaps) {
        if (!mayFind(p, k)) {
            return BAD;
        }
        hits = new ArrayList<>();
        for (int e = 1; e <= text.length(); e++) {
            Hit hit = hitAt(patterns.get(p), text, e, k, swaps);
            if (hit != null) {
                String steps = steps(patterns.get(p), text.substring(hit.beginning, e), swaps, hit.distance);
                hits.add(new Hit(e, hit.distance, hit.beginning, steps));
            }
        }
        return hits.size();
    }

    int hitCount() {
        return hits.size();
    }

    int hit(int i, int what) {
        if (i < 0 || i >= hits.size() || what < 0 || what > 3) {
            return BAD;
        }
        Hit hit = hits.get(i);
        return what == 0 ? hit.e : what == 1 ? hit.distance : what == 2 ? hit.beginning : hit.steps.length();
    }

    int step(int i, int j) {
        if (i < 0 || i >= hits.size()) {
            return BAD;
        }
        String steps = hits.get(i).steps;
        return j < 0 || j >= steps.length() ? NONE : steps.charAt(j) - '0';
    }

    int nearest(int p, boolean swaps, int what) {
        if (!isThere(p) || what < 0 || what > 1) {
            return BAD;
        }
        Hit best = null;
        for (int e = 1; e <= text.length(); e++) {
            Hit hit = hitAt(patterns.get(p), text, e, 200, swaps);
            if (best == null || hit.distance < best.distance) {
                best = hit;
            }
        }
        return best == null ? NONE : what == 0 ? best.distance : best.e;
    }

    int lines(int p, int k, boolean swaps) {
        if (!mayFind(p, k)) {
            return BAD;
        }
        lineNumbers = new ArrayList<>();
        String[] all = text.split("\n", -1);
        for (int number = 0; number < all.length; number++) {
            boolean has = false;
            for (int e = 1; e <= all[number].length() && !has; e++) {
                has = hitAt(patterns.get(p), all[number], e, k, swaps) != null;
            }
            if (has) {
                lineNumbers.add(number);
            }
        }
        return lineNumbers.size();
    }

    int line(int i) {
        return i < 0 || i >= lineNumbers.size() ? NONE : lineNumbers.get(i);
    }

    int replace(int p, int k, boolean swaps) {
        if (!mayFind(p, k)) {
            return BAD;
        }
        StringBuilder made = new StringBuilder();
        String rest = text;
        int count = 0;
        for (int e = 1; e <= rest.length(); e++) {
            Hit hit = hitAt(patterns.get(p), rest, e, k, swaps);
            if (hit != null && hit.beginning < e) {
                made.append(rest, 0, hit.beginning).append(tape);
                rest = rest.substring(e);
                e = 0;
                count++;
            }
        }
        made.append(rest);
        if (made.length() > 1500) {
            return REFUSED;
        }
        become(made.toString());
        tape = "";
        return count;
    }

    int whole(int p, int from, int to, boolean swaps, int limit) {
        if (!isThere(p) || !isPart(from, to) || limit < 0 || limit > 2000) {
            return BAD;
        }
        int far = distance(patterns.get(p), text.substring(from, to), swaps);
        return far > limit ? ABOVE : far;
    }

    int which(int from, int to, boolean swaps) {
        if (!isPart(from, to)) {
            return BAD;
        }
        int best = NONE;
        int least = Integer.MAX_VALUE;
        for (int p = 0; p < 8; p++) {
            if (isThere(p)) {
                int far = distance(patterns.get(p), text.substring(from, to), swaps);
                if (far < least) {
                    least = far;
                    best = p;
                }
            }
        }
        return best;
    }

    int apart(int from, int to, int otherFrom, int otherTo, boolean swaps, int limit) {
        if (!isPart(from, to) || !isPart(otherFrom, otherTo) || limit < 0 || limit > 2000) {
            return BAD;
        }
        List<BitSet> sets = new ArrayList<>();
        for (int i = from; i < to; i++) {
            BitSet set = new BitSet();
            set.set(text.charAt(i));
            sets.add(set);
        }
        int far = distance(sets, text.substring(otherFrom, otherTo), swaps);
        return far > limit ? ABOVE : far;
    }
}
