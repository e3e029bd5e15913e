/** Search in a text that forgives edits; ../shared/DOC.md promises what each call answers. */
public final class EditFinder {
    public static final int NONE = -1;
    public static final int BAD = -2;
    public static final int REFUSED = -3;
    public static final int ABOVE = -4;

    private static final int NEW_LINE = 10;
    private static final int FIRST_PRINTED = 32;
    private static final int LAST_PRINTED = 126;

    private static final int TAPE_ROOM = 400;
    private static final int TEXT_ROOM = 1500;
    private static final int SET_ROOM = 200;
    private static final int PATTERN_ROOM = 8;
    private static final int UNDO_ROOM = 5;
    private static final int MOST_EDITS = 200;
    private static final int MOST_LIMIT = 2000;
    private static final int WORD_BYTES = 8;

    // Each step but MORE uses a set up, and no hit has more than MOST_EDITS of MORE.
    private static final int STEP_ROOM = SET_ROOM + MOST_EDITS;
    // A line with a hit has a byte, and a line end parts it from the next one.
    private static final int LINE_ROOM = TEXT_ROOM / 2 + 1;

    private static final int STEP_SAME = 0;
    private static final int STEP_CHANGED = 1;
    private static final int STEP_MORE = 2;
    private static final int STEP_LESS = 3;
    private static final int STEP_SWAPPED = 4;

    private static final int FAULT_CLOSED = 1;
    private static final int FAULT_NO_ITEMS = 2;
    private static final int FAULT_END = 3;
    private static final int FAULT_TOO_MANY = 4;
    private static final int FAULT_BASE = -10;

    private final ByteRow tape;
    private final ByteRow text;
    private final ByteRow draft;
    private final History history;
    private final SetRow[] patterns;
    private final SetRow scratch;
    private final Reader reader;
    private final Search search;
    private final Ruler ruler;
    private final Hits hits;
    private final LineList lineList;

    public EditFinder() {
        tape = new ByteRow(TAPE_ROOM);
        text = new ByteRow(TEXT_ROOM);
        draft = new ByteRow(TEXT_ROOM);
        history = new History();
        patterns = new SetRow[PATTERN_ROOM];
        for (int p = 0; p < PATTERN_ROOM; p++) {
            patterns[p] = new SetRow(SET_ROOM);
        }
        scratch = new SetRow(TEXT_ROOM);
        reader = new Reader();
        search = new Search();
        ruler = new Ruler();
        hits = new Hits();
        lineList = new LineList();
    }

    public int type(long w, int n) {
        if (n < 1 || n > WORD_BYTES) {
            return BAD;
        }
        for (int i = 0; i < n; i++) {
            if (!isByte(byteOfWord(w, i))) {
                return BAD;
            }
        }
        if (tape.size + n > TAPE_ROOM) {
            return REFUSED;
        }
        for (int i = 0; i < n; i++) {
            tape.add(byteOfWord(w, i));
        }
        return tape.size;
    }

    public int pattern(int p) {
        if (p < 0 || p >= PATTERN_ROOM) {
            return BAD;
        }
        reader.read(tape);
        tape.clear();
        if (reader.fault != 0) {
            return FAULT_BASE - reader.fault;
        }
        patterns[p].copyFrom(reader.sets);
        return patterns[p].size;
    }

    public int place() {
        return reader.faultPlace;
    }

    public int has(int p, int i, int b) {
        if (!isPattern(p) || i < 0 || i >= patterns[p].size || !isByte(b)) {
            return BAD;
        }
        return patterns[p].holds(i, b) ? 1 : 0;
    }

    public int insert(int at) {
        if (at < 0 || at > text.size) {
            return BAD;
        }
        if (text.size + tape.size > TEXT_ROOM) {
            return REFUSED;
        }
        history.keep(text);
        text.putIn(at, tape);
        tape.clear();
        return text.size;
    }

    public int cut(int from, int to) {
        if (!text.isPart(from, to)) {
            return BAD;
        }
        history.keep(text);
        text.takeOut(from, to);
        return text.size;
    }

    public int undo() {
        return history.takeBack(text) ? text.size : NONE;
    }

    public int byteAt(int i) {
        return text.get(i);
    }

    public int length() {
        return text.size;
    }

    public int find(int p, int k, boolean swaps) {
        if (!isPattern(p) || !isEdits(k)) {
            return BAD;
        }
        hits.reset(patterns[p], text, swaps);
        search.aim(patterns[p], k, swaps);
        search.restart(0);
        for (int e = 1; e <= text.size; e++) {
            search.feed(text.get(e - 1));
            if (search.isHit()) {
                hits.add(e, search.edits(), search.beginning());
            }
        }
        return hits.count;
    }

    public int hit(int i, int what) {
        if (i < 0 || i >= hits.count) {
            return BAD;
        }
        switch (what) {
            case 0:
                return hits.places[i];
            case 1:
                return hits.edits[i];
            case 2:
                return hits.beginnings[i];
            case 3:
                hits.trace(i, ruler);
                return hits.way.size;
            default:
                return BAD;
        }
    }

    public int step(int i, int j) {
        if (i < 0 || i >= hits.count) {
            return BAD;
        }
        hits.trace(i, ruler);
        return hits.way.get(j);
    }

    public int nearest(int p, boolean swaps, int what) {
        if (!isPattern(p) || what < 0 || what > 1) {
            return BAD;
        }
        search.aim(patterns[p], patterns[p].size, swaps);
        search.restart(0);
        int least = NONE;
        int where = NONE;
        for (int e = 1; e <= text.size && least != 0; e++) {
            search.feed(text.get(e - 1));
            if (search.isHit()) {
                least = search.edits();
                where = e;
                search.tighten(least - 1);
            }
        }
        return what == 0 ? least : where;
    }

    public int lines(int p, int k, boolean swaps) {
        if (!isPattern(p) || !isEdits(k)) {
            return BAD;
        }
        lineList.clear();
        search.aim(patterns[p], k, swaps);
        search.restart(0);
        int number = 0;
        boolean listed = false;
        for (int i = 0; i < text.size; i++) {
            int b = text.get(i);
            if (b == NEW_LINE) {
                number++;
                listed = false;
                search.restart(i + 1);
            } else if (!listed) {
                search.feed(b);
                listed = search.isHit();
                if (listed) {
                    lineList.add(number);
                }
            }
        }
        return lineList.count;
    }

    public int line(int i) {
        return lineList.get(i);
    }

    public int replace(int p, int k, boolean swaps) {
        if (!isPattern(p) || !isEdits(k)) {
            return BAD;
        }
        search.aim(patterns[p], k, swaps);
        int count = draftReplaced();
        if (count != REFUSED) {
            history.keep(text);
            text.copyFrom(draft);
            tape.clear();
        }
        return count;
    }

    public int whole(int p, int from, int to, boolean swaps, int limit) {
        if (!isPattern(p) || !text.isPart(from, to) || !isLimit(limit)) {
            return BAD;
        }
        int apart = ruler.distance(patterns[p], text, from, to, swaps, limit);
        return apart > limit ? ABOVE : apart;
    }

    public int which(int from, int to, boolean swaps) {
        if (!text.isPart(from, to)) {
            return BAD;
        }
        int best = NONE;
        int limit = MOST_LIMIT;
        for (int p = 0; p < PATTERN_ROOM; p++) {
            if (isPattern(p)) {
                int apart = ruler.distance(patterns[p], text, from, to, swaps, limit);
                if (apart <= limit) {
                    best = p;
                    // Only what is nearer may take the place of an earlier pattern.
                    limit = apart - 1;
                }
            }
        }
        return best;
    }

    public int apart(int from, int to, int otherFrom, int otherTo, boolean swaps, int limit) {
        if (!text.isPart(from, to) || !text.isPart(otherFrom, otherTo) || !isLimit(limit)) {
            return BAD;
        }
        scratch.copyBytes(text, from, to);
        int apart = ruler.distance(scratch, text, otherFrom, otherTo, swaps, limit);
        return apart > limit ? ABOVE : apart;
    }

    private boolean isPattern(int p) {
        return p >= 0 && p < PATTERN_ROOM && patterns[p].size > 0;
    }

    private static boolean isEdits(int k) {
        return k >= 0 && k <= MOST_EDITS;
    }

    private static boolean isLimit(int limit) {
        return limit >= 0 && limit <= MOST_LIMIT;
    }

    private static boolean isByte(int b) {
        return b == NEW_LINE || b >= FIRST_PRINTED && b <= LAST_PRINTED;
    }

    private static int byteOfWord(long w, int i) {
        return (int) (w >>> (8 * i)) & 255;
    }

    /** Writes the text with the hits replaced into the draft: how many, or REFUSED. */
    private int draftReplaced() {
        draft.clear();
        search.restart(0);
        int done = 0;
        int count = 0;
        for (int e = 1; e <= text.size; e++) {
            search.feed(text.get(e - 1));
            if (search.isHit() && search.beginning() < e) {
                // The draft only grows, so what does not fit now is too long in the end.
                if (!draft.addPart(text, done, search.beginning()) || !draft.addPart(tape, 0, tape.size)) {
                    return REFUSED;
                }
                count++;
                done = e;
                search.restart(e);
            }
        }
        return draft.addPart(text, done, text.size) ? count : REFUSED;
    }

    /** A row of bytes in a room of fixed size. */
    private static final class ByteRow {
        final byte[] cells;
        int size;

        ByteRow(int room) {
            cells = new byte[Math.max(room, 0)];
        }

        void clear() {
            size = 0;
        }

        int get(int i) {
            return i >= 0 && i < size ? cells[i] : NONE;
        }

        boolean isPart(int from, int to) {
            return from >= 0 && from <= to && to <= size;
        }

        void add(int b) {
            if (size < cells.length) {
                cells[size] = (byte) b;
                size++;
            }
        }

        /** Whether the part fitted; if not, nothing is added. */
        boolean addPart(ByteRow other, int from, int to) {
            if (!other.isPart(from, to) || to - from > cells.length - size) {
                return false;
            }
            System.arraycopy(other.cells, from, cells, size, to - from);
            size += to - from;
            return true;
        }

        void copyFrom(ByteRow other) {
            clear();
            addPart(other, 0, other.size);
        }

        void putIn(int at, ByteRow other) {
            if (at >= 0 && at <= size && other.size <= cells.length - size) {
                System.arraycopy(cells, at, cells, at + other.size, size - at);
                System.arraycopy(other.cells, 0, cells, at, other.size);
                size += other.size;
            }
        }

        void takeOut(int from, int to) {
            if (isPart(from, to)) {
                System.arraycopy(cells, to, cells, from, size - to);
                size -= to - from;
            }
        }
    }

    /** The texts before the latest changes, in a ring. */
    private static final class History {
        private final ByteRow[] rows;
        private int newest;
        private int count;

        History() {
            rows = new ByteRow[UNDO_ROOM];
            for (int i = 0; i < UNDO_ROOM; i++) {
                rows[i] = new ByteRow(TEXT_ROOM);
            }
        }

        void keep(ByteRow row) {
            newest = newest + 1 < UNDO_ROOM ? newest + 1 : 0;
            rows[newest].copyFrom(row);
            count = Math.min(count + 1, UNDO_ROOM);
        }

        /** Whether there was a row to take back. */
        boolean takeBack(ByteRow row) {
            if (count == 0) {
                return false;
            }
            row.copyFrom(rows[newest]);
            newest = newest > 0 ? newest - 1 : UNDO_ROOM - 1;
            count--;
            return true;
        }
    }

    /** A row of sets of bytes: bit b of a set tells of byte b, bit 64 and on stand in high. */
    private static final class SetRow {
        private static final int HALF = 64;

        final long[] low;
        final long[] high;
        int size;

        SetRow(int room) {
            low = new long[Math.max(room, 0)];
            high = new long[Math.max(room, 0)];
        }

        void clear() {
            size = 0;
        }

        void add(long lowBits, long highBits) {
            if (size < low.length) {
                low[size] = lowBits;
                high[size] = highBits;
                size++;
            }
        }

        boolean holds(int i, int b) {
            return i >= 0 && i < size && (half(b)[i] >>> b & 1L) != 0;
        }

        /** The halves of all sets in which bit b (modulo 64, as shifts take it) is byte b's. */
        long[] half(int b) {
            return b < HALF ? low : high;
        }

        void copyFrom(SetRow other) {
            clear();
            for (int i = 0; i < other.size; i++) {
                add(other.low[i], other.high[i]);
            }
        }

        void copyBytes(ByteRow row, int from, int to) {
            clear();
            for (int i = from; i < to; i++) {
                int b = row.get(i);
                add(b < HALF ? 1L << b : 0L, b < HALF ? 0L : 1L << b);
            }
        }
    }

    /** Reads a row of bytes as a pattern's elements. */
    private static final class Reader {
        private static final long ALL_LOW = 1L << NEW_LINE | -1L << FIRST_PRINTED;
        private static final long ALL_HIGH = -1L >>> 1;

        private ByteRow row;
        private int at;
        private long low;
        private long high;
        final SetRow sets;
        int fault;
        int faultPlace;

        Reader() {
            row = new ByteRow(0);
            sets = new SetRow(SET_ROOM);
            faultPlace = NONE;
        }

        void read(ByteRow told) {
            row = told;
            at = 0;
            fault = 0;
            faultPlace = NONE;
            sets.clear();
            if (row.size == 0) {
                fail(FAULT_END, 0);
            }
            for (int turn = 0; turn < row.size && at < row.size && fault == 0; turn++) {
                readElement();
            }
        }

        private void fail(int number, int where) {
            if (fault == 0) {
                fault = number;
                faultPlace = where;
            }
        }

        private void readElement() {
            int b = row.get(at);
            low = 0;
            high = 0;
            if (b == ']') {
                fail(FAULT_CLOSED, at);
            } else if (sets.size >= SET_ROOM) {
                fail(FAULT_TOO_MANY, at);
            } else if (b == '[') {
                at++;
                readItems();
            } else if (b == '.') {
                at++;
                addRange(NEW_LINE, NEW_LINE);
                turnRound();
            } else {
                int single = takeByte();
                addRange(single, single);
            }
            if (fault == 0) {
                sets.add(low, high);
            }
        }

        private void readItems() {
            boolean others = row.get(at) == '^';
            if (others) {
                at++;
            }
            if (row.get(at) == ']') {
                fail(FAULT_NO_ITEMS, at);
            }
            for (int turn = 0; turn <= row.size && fault == 0 && row.get(at) != ']'; turn++) {
                readItem();
            }
            at++;
            if (others) {
                turnRound();
            }
        }

        private void readItem() {
            int first = takeByte();
            int second = first;
            if (row.get(at) == '-' && row.get(at + 1) != ']') {
                at++;
                second = takeByte();
            }
            addRange(first, second);
        }

        /** The byte here, or the one behind a backslash here. */
        private int takeByte() {
            if (row.get(at) == '\\') {
                at++;
            }
            int b = row.get(at);
            if (b == NONE) {
                fail(FAULT_END, row.size);
            }
            at++;
            return b;
        }

        private void addRange(int first, int second) {
            for (int b = Math.max(first, 0); b <= second && b <= LAST_PRINTED; b++) {
                if (isByte(b)) {
                    if (b < SetRow.HALF) {
                        low |= 1L << b;
                    } else {
                        high |= 1L << b;
                    }
                }
            }
        }

        private void turnRound() {
            low = ALL_LOW & ~low;
            high = ALL_HIGH & ~high;
        }
    }

    /**
     * Walks over a text byte by byte; after each byte it knows the least edits between the pattern
     * and some bytes that end there, and their greatest beginning. Both stand in one number, so that
     * the lesser number is the better way.
     */
    private static final class Search {
        private static final int EDIT = 2048;
        private static final int FAR = 1 << 28;

        private SetRow sets;
        private int setCount;
        private int bound;
        private boolean swaps;
        private int[] now;
        private int[] last;
        private int[] older;
        private int top;
        private int place;
        private int fed;
        private int lastByte;

        Search() {
            sets = new SetRow(0);
            now = new int[SET_ROOM + 1];
            last = new int[SET_ROOM + 1];
            older = new int[SET_ROOM + 1];
            lastByte = NEW_LINE;
        }

        void aim(SetRow sought, int edits, boolean withSwaps) {
            sets = sought;
            setCount = Math.min(sought.size, SET_ROOM);
            bound = edits;
            swaps = withSwaps;
        }

        /** From now on only hits with fewer edits count. */
        void tighten(int edits) {
            bound = edits;
        }

        /** The bytes fed from now on are a text of their own that begins at origin. */
        void restart(int origin) {
            place = origin;
            fed = 0;
            top = Math.max(0, Math.min(setCount, bound));
            for (int i = 0; i <= top; i++) {
                now[i] = number(i, origin);
            }
            closeAbove(top);
        }

        void feed(int b) {
            int[] spare = older;
            older = last;
            last = now;
            now = spare;
            place++;
            fed++;
            // Numbers never fall along a diagonal, so the topmost one within the bound climbs by one at most.
            int end = Math.min(setCount, top + 1);
            fillColumn(b, end);
            closeAbove(end);
            lowerTop(end);
            lastByte = b;
        }

        boolean isHit() {
            return top == setCount;
        }

        int edits() {
            return now[setCount] / EDIT;
        }

        int beginning() {
            return EDIT - 1 - now[setCount] % EDIT;
        }

        private static int number(int edits, int begin) {
            return edits * EDIT + (EDIT - 1 - begin);
        }

        private void fillColumn(int b, int end) {
            long[] half = sets.half(b);
            long[] lastHalf = sets.half(lastByte);
            boolean maySwap = swaps && fed > 1;
            now[0] = number(0, place);
            for (int i = 1; i <= end; i++) {
                int best = Math.min(last[i], now[i - 1]) + EDIT;
                best = Math.min(best, (half[i - 1] >>> b & 1L) != 0 ? last[i - 1] : last[i - 1] + EDIT);
                if (maySwap && i > 1 && (half[i - 2] >>> b & 1L) != 0 && (lastHalf[i - 1] >>> lastByte & 1L) != 0) {
                    best = Math.min(best, older[i - 2] + EDIT);
                }
                now[i] = best;
            }
        }

        private void closeAbove(int end) {
            if (end < setCount) {
                now[end + 1] = FAR;
            }
        }

        private void lowerTop(int end) {
            top = end;
            while (top > 0 && now[top] / EDIT > bound) {
                top--;
            }
        }
    }

    /**
     * Tells how far all of a row of sets and all of a row of bytes are apart, and by which steps. It
     * looks only at the diagonals (sets used less bytes used) that a way with so many edits can touch.
     */
    private static final class Ruler {
        private static final int FAR = 1 << 20;
        private static final int FIRST_BOUND = 16;
        private static final int BOUND_GROWTH = 4;

        private SetRow sets;
        private ByteRow bytes;
        private int from;
        private int span;
        private boolean swaps;
        private int lowest;
        private int highest;
        private int[] now;
        private int[] last;
        private int[] older;
        private int thisByte;
        private int lastByte;
        private long[] thisHalf;
        private long[] lastHalf;
        private boolean tracing;
        private final StepTable table;

        Ruler() {
            sets = new SetRow(0);
            bytes = new ByteRow(0);
            now = new int[TEXT_ROOM + 1];
            last = new int[TEXT_ROOM + 1];
            older = new int[TEXT_ROOM + 1];
            thisByte = NEW_LINE;
            lastByte = NEW_LINE;
            thisHalf = sets.low;
            lastHalf = sets.low;
            table = new StepTable();
        }

        /** The distance, or any number above the limit. */
        int distance(SetRow row, ByteRow text, int start, int end, boolean withSwaps, int limit) {
            lay(row, text, start, end, withSwaps);
            tracing = false;
            // Bounds that grow make near parts cheap, even where the limit is high.
            for (int bound = FIRST_BOUND; bound < limit && bound < MOST_LIMIT; bound *= BOUND_GROWTH) {
                int found = measure(bound);
                if (found <= bound) {
                    return found;
                }
            }
            return measure(limit);
        }

        /** The steps of a distance that is known already. */
        void trace(SetRow row, ByteRow text, int start, int end, boolean withSwaps, int edits, Way way) {
            lay(row, text, start, end, withSwaps);
            tracing = true;
            measure(edits);
            walkBack(way);
        }

        private void lay(SetRow row, ByteRow text, int start, int end, boolean withSwaps) {
            sets = row;
            bytes = text;
            from = start;
            span = text.isPart(start, end) ? end - start : 0;
            swaps = withSwaps;
        }

        private int measure(int bound) {
            int gap = sets.size - span;
            int spare = bound - Math.abs(gap);
            if (spare < 0) {
                return bound + 1;
            }
            lowest = Math.min(gap, 0) - spare / 2;
            highest = Math.max(gap, 0) + spare / 2;
            table.widen(lowest, highest);
            fillFirstColumn();
            for (int j = 1; j <= span; j++) {
                // Numbers never fall along a way, so a column that is too high ends it.
                if (fillColumn(j) > bound) {
                    return bound + 1;
                }
            }
            return now[sets.size];
        }

        private void fillFirstColumn() {
            int end = Math.min(sets.size, highest);
            for (int i = 0; i <= end; i++) {
                now[i] = i;
            }
            closeAbove(end);
        }

        /** Answers the least number of the column. */
        private int fillColumn(int j) {
            turnColumns(bytes.get(from + j - 1));
            int first = Math.max(0, j + lowest);
            int end = Math.min(sets.size, j + highest);
            int least = FAR;
            if (first > 0) {
                now[first - 1] = FAR;
            }
            for (int i = first; i <= end; i++) {
                now[i] = i == 0 ? j : best(i, j);
                least = Math.min(least, now[i]);
            }
            closeAbove(end);
            return least;
        }

        private void turnColumns(int b) {
            int[] spare = older;
            older = last;
            last = now;
            now = spare;
            lastByte = thisByte;
            lastHalf = thisHalf;
            thisByte = b;
            thisHalf = sets.half(b);
        }

        private void closeAbove(int end) {
            if (end < sets.size) {
                now[end + 1] = FAR;
            }
        }

        /** Of ways with as many edits the first one looked at stays: that is the order of the document. */
        private int best(int i, int j) {
            boolean same = (thisHalf[i - 1] >>> thisByte & 1L) != 0;
            int edits = same ? last[i - 1] : last[i - 1] + 1;
            int taken = same ? STEP_SAME : STEP_CHANGED;
            if (swaps && i > 1 && j > 1 && older[i - 2] + 1 < edits && isSwap(i)) {
                edits = older[i - 2] + 1;
                taken = STEP_SWAPPED;
            }
            if (last[i] + 1 < edits) {
                edits = last[i] + 1;
                taken = STEP_MORE;
            }
            if (now[i - 1] + 1 < edits) {
                edits = now[i - 1] + 1;
                taken = STEP_LESS;
            }
            if (tracing) {
                table.put(i, j, taken);
            }
            return edits;
        }

        private boolean isSwap(int i) {
            return (thisHalf[i - 2] >>> thisByte & 1L) != 0 && (lastHalf[i - 1] >>> lastByte & 1L) != 0;
        }

        private void walkBack(Way way) {
            way.clear();
            int i = sets.size;
            int j = span;
            for (int turn = 0; turn < STEP_ROOM && (i > 0 || j > 0); turn++) {
                int taken = i <= 0 ? STEP_MORE : j <= 0 ? STEP_LESS : table.get(i, j);
                int used = taken == STEP_SWAPPED ? 2 : 1;
                if (taken != STEP_MORE) {
                    i -= used;
                }
                if (taken != STEP_LESS) {
                    j -= used;
                }
                way.addBefore(taken);
            }
        }
    }

    /** The last step to each pair of sets used and bytes used, four bits each. */
    private static final class StepTable {
        private static final int BITS = 4;
        private static final int IN_WORD = 16;
        private static final long MASK = 15L;

        private final long[] words;
        private int lowest;
        private int width;

        StepTable() {
            // As many columns as a hit has bytes at most, as many diagonals as its edits and one more.
            words = new long[(STEP_ROOM + 1) * (MOST_EDITS + 1) / IN_WORD + 1];
        }

        void widen(int lowestDiagonal, int highestDiagonal) {
            lowest = lowestDiagonal;
            width = highestDiagonal - lowestDiagonal + 1;
        }

        void put(int i, int j, int taken) {
            int cell = cellOf(i, j);
            if (cell >= 0 && cell / IN_WORD < words.length) {
                int shift = cell % IN_WORD * BITS;
                words[cell / IN_WORD] = words[cell / IN_WORD] & ~(MASK << shift) | (long) taken << shift;
            }
        }

        int get(int i, int j) {
            int cell = cellOf(i, j);
            if (cell < 0 || cell / IN_WORD >= words.length) {
                return STEP_SAME;
            }
            return (int) (words[cell / IN_WORD] >>> (cell % IN_WORD * BITS) & MASK);
        }

        private int cellOf(int i, int j) {
            return j * width + (i - j - lowest);
        }
    }

    /** The steps of a hit, told from its end to its beginning. */
    private static final class Way {
        private final byte[] steps;
        int size;

        Way() {
            steps = new byte[STEP_ROOM];
        }

        void clear() {
            size = 0;
        }

        void addBefore(int taken) {
            if (size < steps.length) {
                steps[size] = (byte) taken;
                size++;
            }
        }

        int get(int j) {
            return j >= 0 && j < size ? steps[size - 1 - j] : NONE;
        }
    }

    /** The hits of the latest find, with copies of what they were found in: text and pattern may change. */
    private static final class Hits {
        private final ByteRow text;
        private final SetRow sets;
        private boolean swaps;
        private int traced;
        final Way way;
        final int[] places;
        final int[] edits;
        final int[] beginnings;
        int count;

        Hits() {
            text = new ByteRow(TEXT_ROOM);
            sets = new SetRow(SET_ROOM);
            traced = NONE;
            way = new Way();
            places = new int[TEXT_ROOM];
            edits = new int[TEXT_ROOM];
            beginnings = new int[TEXT_ROOM];
        }

        void reset(SetRow sought, ByteRow searched, boolean withSwaps) {
            sets.copyFrom(sought);
            text.copyFrom(searched);
            swaps = withSwaps;
            traced = NONE;
            count = 0;
        }

        void add(int place, int distance, int beginning) {
            if (count < TEXT_ROOM) {
                places[count] = place;
                edits[count] = distance;
                beginnings[count] = beginning;
                count++;
            }
        }

        /** Finds the way of hit i; it is kept, since steps are asked for one by one. */
        void trace(int i, Ruler ruler) {
            if (i != traced && i >= 0 && i < count) {
                ruler.trace(sets, text, beginnings[i], places[i], swaps, edits[i], way);
                traced = i;
            }
        }
    }

    /** The numbers of the lines with a hit. */
    private static final class LineList {
        private final int[] numbers;
        int count;

        LineList() {
            numbers = new int[LINE_ROOM];
        }

        void clear() {
            count = 0;
        }

        void add(int number) {
            if (count < numbers.length) {
                numbers[count] = number;
                count++;
            }
        }

        int get(int i) {
            return i >= 0 && i < count ? numbers[i] : NONE;
        }
    }
}
