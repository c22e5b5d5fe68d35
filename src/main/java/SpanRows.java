import java.util.ArrayList;
import java.util.Arrays;

/**
 * Names that stand for numbers not known yet: within spans, made one with others, with sums and
 * unlike ones that are kept, tried in order, and taken back.
 */
public final class SpanRows {
    public static final int NONE = -1;

    private static final int TOO_MANY_FREE = -2;
    private static final int TOO_MANY_TRIED = -3;
    private static final int TOO_MANY_WAYS = -4;

    private static final int MOST_NAMES = 64;
    private static final int MOST_PLACES = 32;
    private static final int MOST_KEPT = 60;
    private static final int MOST_MARKS = 40;
    private static final int MOST_FREE = 8;
    private static final int MOST_TRIED = 5000;
    private static final int MOST_WAYS = 200;

    private static final int AT_MOST = 0;
    private static final int EXACTLY = 1;
    private static final int UNLIKE = 2;

    private final Names names;
    private final Row row;
    private final ArrayList<KeptRow> keptRows;
    private final Search search;

    // Entries behind markCount are left over from marks that went; they are used again.
    private final ArrayList<Names> savedNames;
    private final int[] savedKept;
    private int markCount;

    public SpanRows() {
        names = new Names();
        row = new Row();
        keptRows = new ArrayList<KeptRow>();
        search = new Search();
        savedNames = new ArrayList<Names>();
        savedKept = new int[MOST_MARKS];
        markCount = 0;
    }

    public int name() {
        if (names.size >= MOST_NAMES) {
            return NONE;
        }
        search.endWays();
        return names.addFree();
    }

    public boolean span(int x, long low, long high) {
        if (!names.has(x) || !names.narrow(x, low, high)) {
            return false;
        }
        search.endWays();
        return true;
    }

    public boolean give(int x, long v) {
        if (!names.has(x) || !settle(x, v)) {
            return false;
        }
        search.endWays();
        return true;
    }

    public boolean equal(int x, int y) {
        if (!names.has(x) || !names.has(y) || !agree(x, y)) {
            return false;
        }
        names.join(x, y);
        search.endWays();
        return true;
    }

    public int put(int x, long factor) {
        if (!names.has(x) || row.length >= MOST_PLACES) {
            return NONE;
        }
        row.append(x, factor);
        return row.length;
    }

    public int keep(int kind, long k) {
        search.endWays();
        int answer = keepRow(kind, k);
        row.length = 0;
        return answer;
    }

    public int label() {
        int answer = search.run(row, names, keptRows);
        row.length = 0;
        return answer;
    }

    public long way(int i, int j) {
        if (!search.hasWay(i) || j < 0 || j >= search.freeCount) {
            return 0;
        }
        return search.numberIn(i, j);
    }

    public boolean take(int i) {
        if (!search.hasWay(i)) {
            return false;
        }
        for (int j = 0; j < search.freeCount; j++) {
            names.setNumber(search.free[j], search.numberIn(i, j));
        }
        search.endWays();
        return true;
    }

    public int mark() {
        if (markCount >= MOST_MARKS) {
            return NONE;
        }
        if (markCount >= savedNames.size()) {
            savedNames.add(new Names());
        }
        savedNames.get(markCount).copyFrom(names);
        savedKept[markCount] = keptRows.size();
        markCount++;
        return markCount;
    }

    public int back() {
        if (markCount <= 0 || markCount > savedNames.size()) {
            return NONE;
        }
        markCount--;
        names.copyFrom(savedNames.get(markCount));
        for (int i = keptRows.size() - 1; i >= savedKept[markCount]; i--) {
            keptRows.remove(i);
        }
        row.cutAtFirstGone(names);
        search.endWays();
        return markCount;
    }

    public int about(int x, int what) {
        if (!names.has(x)) {
            return NONE;
        }
        switch (what) {
            case 0:
                return names.freedom(x);
            case 1:
                return names.leastOf(x);
            case 2:
                return names.countOnes(x);
            case 3:
                return countRowsWith(x);
            case 4:
                return search.isFreeName(names.leastOf(x)) ? 1 : 0;
            default:
                return NONE;
        }
    }

    public long bound(int x, boolean high) {
        if (!names.has(x)) {
            return 0;
        }
        if (names.isKnown(x)) {
            return names.numberOf(x);
        }
        return high ? names.highOf(x) : names.lowOf(x);
    }

    public int kept(int i, int what) {
        if (i < 0 || i >= keptRows.size()) {
            return NONE;
        }
        KeptRow keptRow = keptRows.get(i);
        switch (what) {
            case 0:
                return keptRow.kind;
            case 1:
                return keptRow.places.length;
            case 2:
                return keptRow.countFree(names);
            default:
                return NONE;
        }
    }

    public int count(int what) {
        switch (what) {
            case 0:
                return names.size;
            case 1:
                return keptRows.size();
            case 2:
                return markCount;
            case 3:
                return row.length;
            case 4:
                return search.wayCount;
            case 5:
                return search.freeCount;
            case 6:
                return search.tried;
            default:
                return NONE;
        }
    }

    /** Gives a number to a name, or leaves all as it was if the name or a kept row is against it. */
    private boolean settle(int x, long v) {
        if (names.isKnown(x)) {
            return names.numberOf(x) == v;
        }
        if (!names.liesInSpan(x, v)) {
            return false;
        }
        names.setNumber(x, v);
        if (allCompleteAreSo()) {
            return true;
        }
        names.unsetNumber(x);
        return false;
    }

    /** Brings to x and y what was told of the other one, so that joining them cannot fail. */
    private boolean agree(int x, int y) {
        if (names.isKnown(x)) {
            return settle(y, names.numberOf(x));
        }
        if (names.isKnown(y)) {
            return settle(x, names.numberOf(y));
        }
        return names.shareSpans(x, y);
    }

    private boolean allCompleteAreSo() {
        for (int i = 0; i < keptRows.size(); i++) {
            KeptRow keptRow = keptRows.get(i);
            if (keptRow.countFree(names) == 0 && !keptRow.isSo(names)) {
                return false;
            }
        }
        return true;
    }

    private int keepRow(int kind, long k) {
        if (kind < AT_MOST || kind > UNLIKE || keptRows.size() >= MOST_KEPT) {
            return NONE;
        }
        KeptRow made = new KeptRow(kind, k, row);
        if (made.countFree(names) == 0 && !made.isSo(names)) {
            return 0;
        }
        keptRows.add(made);
        return 1;
    }

    private int countRowsWith(int x) {
        int found = 0;
        for (int i = 0; i < keptRows.size(); i++) {
            if (keptRows.get(i).holds(x, names)) {
                found++;
            }
        }
        return found;
    }

    /**
     * The names and what was told of each. Names that are one share what is held at the least of
     * them; what is held at the others is stale.
     */
    private static final class Names {
        int size;
        private final int[] least = new int[MOST_NAMES];
        private final boolean[] known = new boolean[MOST_NAMES];
        private final long[] number = new long[MOST_NAMES];
        // A name without a span holds all of 64 bits here, so that a test against it always passes.
        private final boolean[] spanned = new boolean[MOST_NAMES];
        private final long[] low = new long[MOST_NAMES];
        private final long[] high = new long[MOST_NAMES];

        boolean has(int x) {
            return x >= 0 && x < size;
        }

        int addFree() {
            if (size >= MOST_NAMES) {
                return NONE;
            }
            int x = size;
            least[x] = x;
            known[x] = false;
            number[x] = 0;
            spanned[x] = false;
            low[x] = Long.MIN_VALUE;
            high[x] = Long.MAX_VALUE;
            size++;
            return x;
        }

        int leastOf(int x) {
            return least[x];
        }

        boolean isKnown(int x) {
            return known[least[x]];
        }

        long numberOf(int x) {
            return number[least[x]];
        }

        long lowOf(int x) {
            return low[least[x]];
        }

        long highOf(int x) {
            return high[least[x]];
        }

        boolean hasSpan(int x) {
            return spanned[least[x]];
        }

        boolean liesInSpan(int x, long v) {
            return lowOf(x) <= v && v <= highOf(x);
        }

        int freedom(int x) {
            if (isKnown(x)) {
                return 2;
            }
            return hasSpan(x) ? 1 : 0;
        }

        void setNumber(int x, long v) {
            known[least[x]] = true;
            number[least[x]] = v;
        }

        void unsetNumber(int x) {
            known[least[x]] = false;
        }

        boolean narrow(int x, long newLow, long newHigh) {
            if (newHigh < newLow) {
                return false;
            }
            if (isKnown(x)) {
                return newLow <= numberOf(x) && numberOf(x) <= newHigh;
            }
            long bothLow = Math.max(newLow, lowOf(x));
            long bothHigh = Math.min(newHigh, highOf(x));
            if (bothHigh < bothLow) {
                return false;
            }
            int holder = least[x];
            spanned[holder] = true;
            low[holder] = bothLow;
            high[holder] = bothHigh;
            return true;
        }

        boolean shareSpans(int x, int y) {
            if (hasSpan(y) && !narrow(x, lowOf(y), highOf(y))) {
                return false;
            }
            return !hasSpan(x) || narrow(y, lowOf(x), highOf(x));
        }

        /** Both must have the same number or the same span already: either may be the holder then. */
        void join(int x, int y) {
            int stays = Math.min(least[x], least[y]);
            int goes = Math.max(least[x], least[y]);
            for (int z = 0; z < size; z++) {
                if (least[z] == goes) {
                    least[z] = stays;
                }
            }
        }

        int countOnes(int x) {
            int found = 0;
            for (int z = 0; z < size; z++) {
                if (least[z] == least[x]) {
                    found++;
                }
            }
            return found;
        }

        void copyFrom(Names other) {
            size = other.size;
            for (int x = 0; x < size; x++) {
                least[x] = other.least[x];
                known[x] = other.known[x];
                number[x] = other.number[x];
                spanned[x] = other.spanned[x];
                low[x] = other.low[x];
                high[x] = other.high[x];
            }
        }
    }

    /** The row that is being put together. */
    private static final class Row {
        int length;
        private final int[] places = new int[MOST_PLACES];
        private final long[] factors = new long[MOST_PLACES];

        void append(int x, long factor) {
            if (length < MOST_PLACES) {
                places[length] = x;
                factors[length] = factor;
                length++;
            }
        }

        void cutAtFirstGone(Names names) {
            for (int i = 0; i < length; i++) {
                if (!names.has(places[i])) {
                    length = i;
                    break;
                }
            }
        }
    }

    /** A row that is kept; it never changes. */
    private static final class KeptRow {
        final int kind;
        final int[] places;
        private final long k;
        private final long[] factors;

        KeptRow(int kind, long k, Row row) {
            this.kind = kind;
            this.k = k;
            places = Arrays.copyOf(row.places, row.length);
            factors = Arrays.copyOf(row.factors, row.length);
        }

        int countFree(Names names) {
            int found = 0;
            for (int i = 0; i < places.length; i++) {
                if (!names.isKnown(places[i])) {
                    found++;
                }
            }
            return found;
        }

        boolean holds(int x, Names names) {
            for (int i = 0; i < places.length; i++) {
                if (names.leastOf(places[i]) == names.leastOf(x)) {
                    return true;
                }
            }
            return false;
        }

        /** Means something only while all names of the row have numbers. */
        boolean isSo(Names names) {
            switch (kind) {
                case AT_MOST:
                    return sum(names) <= k;
                case EXACTLY:
                    return sum(names) == k;
                default:
                    return allUnlike(names);
            }
        }

        private long sum(Names names) {
            long total = 0;
            for (int i = 0; i < places.length; i++) {
                total += factors[i] * names.numberOf(places[i]);
            }
            return total;
        }

        private boolean allUnlike(Names names) {
            for (int i = 1; i < places.length; i++) {
                long number = names.numberOf(places[i]);
                for (int j = 0; j < i; j++) {
                    if (names.numberOf(places[j]) == number) {
                        return false;
                    }
                }
            }
            return true;
        }

        /**
         * The level of the search at which the last free name of the row gets its number: NONE if
         * none is free now, MOST_FREE if one is free that the search leaves free.
         */
        int levelOfLast(Names names, Search search) {
            int last = NONE;
            for (int i = 0; i < places.length; i++) {
                if (!names.isKnown(places[i])) {
                    int level = search.levelOf(names.leastOf(places[i]));
                    last = Math.max(last, level == NONE ? MOST_FREE : level);
                }
            }
            return last;
        }
    }

    /** The latest search for ways. Its free names and ways are there until endWays(). */
    private static final class Search {
        // A row may hold more free names than a search takes: they are gathered before they are counted.
        final int[] free = new int[MOST_PLACES];
        int freeCount;
        int wayCount;
        int tried;
        private final long[] ways = new long[MOST_WAYS * MOST_FREE];
        // For each kept row the level at which it is looked at: earlier it is not complete, and
        // later its numbers stay the same.
        private final int[] lookAt = new int[MOST_KEPT];

        void endWays() {
            freeCount = 0;
            wayCount = 0;
        }

        boolean hasWay(int i) {
            return i >= 0 && i < wayCount;
        }

        long numberIn(int i, int j) {
            return ways[i * MOST_FREE + j];
        }

        /** The place of a least name among the free ones, NONE if it is not among them. */
        int levelOf(int x) {
            for (int level = 0; level < freeCount; level++) {
                if (free[level] == x) {
                    return level;
                }
            }
            return NONE;
        }

        boolean isFreeName(int x) {
            return levelOf(x) != NONE;
        }

        int run(Row row, Names names, ArrayList<KeptRow> keptRows) {
            endWays();
            tried = 0;
            gatherFree(row, names);
            int stopped = reasonNotToStart(names);
            if (stopped == 0) {
                planLooks(names, keptRows);
                stopped = tryLevel(0, names, keptRows);
            }
            if (stopped != 0) {
                endWays();
                return stopped;
            }
            return wayCount;
        }

        private void gatherFree(Row row, Names names) {
            for (int i = 0; i < row.length; i++) {
                int x = names.leastOf(row.places[i]);
                if (!names.isKnown(x) && !isFreeName(x)) {
                    free[freeCount] = x;
                    freeCount++;
                }
            }
        }

        private int reasonNotToStart(Names names) {
            for (int level = 0; level < freeCount; level++) {
                if (!names.hasSpan(free[level])) {
                    return NONE;
                }
            }
            return freeCount > MOST_FREE ? TOO_MANY_FREE : 0;
        }

        private void planLooks(Names names, ArrayList<KeptRow> keptRows) {
            for (int i = 0; i < keptRows.size() && i < MOST_KEPT; i++) {
                lookAt[i] = keptRows.get(i).levelOfLast(names, this);
            }
        }

        /** Answers 0 when all numbers of the level were tried, else why the search must stop. */
        private int tryLevel(int level, Names names, ArrayList<KeptRow> keptRows) {
            if (level >= freeCount || level >= MOST_FREE) {
                return addWay(names);
            }
            int x = free[level];
            long v = names.lowOf(x);
            long last = names.highOf(x);
            int stopped = 0;
            for (int step = 0; step <= MOST_TRIED && stopped == 0; step++) {
                if (tried >= MOST_TRIED) {
                    stopped = TOO_MANY_TRIED;
                    break;
                }
                tried++;
                names.setNumber(x, v);
                if (isGood(level, names, keptRows)) {
                    stopped = tryLevel(level + 1, names, keptRows);
                }
                // Stepping past the last one first could wrap round to the least of 64 bits.
                if (v == last) {
                    break;
                }
                v++;
            }
            names.unsetNumber(x);
            return stopped;
        }

        private boolean isGood(int level, Names names, ArrayList<KeptRow> keptRows) {
            for (int i = 0; i < keptRows.size() && i < MOST_KEPT; i++) {
                if (lookAt[i] == level && !keptRows.get(i).isSo(names)) {
                    return false;
                }
            }
            return true;
        }

        private int addWay(Names names) {
            if (wayCount >= MOST_WAYS) {
                return TOO_MANY_WAYS;
            }
            for (int j = 0; j < freeCount && j < MOST_FREE; j++) {
                ways[wayCount * MOST_FREE + j] = names.numberOf(free[j]);
            }
            wayCount++;
            return 0;
        }
    }
}
