/**
 * Ways of movers through a warehouse: places on levels, one-way pieces and lifts between them,
 * limits, barred turns, doors with hours, closed pieces, and the least or best ways through them.
 */
public final class WayGraph {

    private static final int MOST_PLACES = 20;
    private static final int MOST_PIECES = 40;
    private static final int MOST_MOVERS = 6;
    private static final int MOST_MARKS = 8;
    private static final int MOST_RANKS = 5;
    private static final int MOST_SHORT_PIECES = 5;

    private static final int TOP_LEVEL = 9;
    private static final long MOST_LENGTH = 10000000L;
    private static final long MOST_SPEED = 10000L;
    private static final long MOST_LIFT_SECONDS = 10000L;
    private static final long MOST_SIZE = 10000L;
    private static final long LAST_START = 10000000L;

    private static final int HOURS = 24;
    private static final long HOUR_SECONDS = 3600L;
    private static final int ALL_HOURS_OPEN = (1 << HOURS) - 1;
    private static final int FIRST_WIDTH = 2000;
    private static final long FIRST_HEIGHT = 3000L;

    private static final int NONE = -1;
    /** Later than any moment that a row of all pieces with all their waits can come to. */
    private static final long NEVER = 1L << 60;

    private final int[] levels;
    private int placeCount;
    private final Pieces pieces;
    private final int[] moverWidths;
    private final long[] moverHeights;
    private int moverCount;
    private final int[] markedPlaces;
    private int markCount;
    private final LeastWays leastWays;
    private final ShortWays shortWays;
    private final Row lastTold;

    public WayGraph() {
        levels = new int[MOST_PLACES];
        pieces = new Pieces();
        moverWidths = new int[MOST_MOVERS];
        moverHeights = new long[MOST_MOVERS];
        markedPlaces = new int[MOST_MARKS];
        leastWays = new LeastWays();
        shortWays = new ShortWays();
        lastTold = new Row();
    }

    public int place(int level) throws IllegalArgumentException, UnsupportedOperationException {
        if (!within(level, 0, TOP_LEVEL)) {
            throw new IllegalArgumentException("no such level");
        }
        if (placeCount >= MOST_PLACES) {
            throw new UnsupportedOperationException("no more places");
        }
        levels[placeCount] = level;
        placeCount++;
        return placeCount - 1;
    }

    public int piece(int a, int b, long length, long speed)
            throws IllegalArgumentException, ArithmeticException, UnsupportedOperationException {
        if (!hasPlace(a) || !hasPlace(b) || a == b || levels[a] != levels[b]) {
            throw new IllegalArgumentException("not two places of one level");
        }
        if (!within(length, 1, MOST_LENGTH) || !within(speed, 0, MOST_SPEED)) {
            throw new IllegalArgumentException("length or speed out of range");
        }
        if (speed == 0) {
            throw new ArithmeticException("/ by zero");
        }
        if (pieces.size >= MOST_PIECES) {
            throw new UnsupportedOperationException("no more pieces");
        }
        return pieces.add(a, b, (length + speed - 1) / speed);
    }

    public int lift(int a, int b, long seconds)
            throws IllegalArgumentException, UnsupportedOperationException {
        if (!hasPlace(a) || !hasPlace(b) || levels[a] == levels[b]) {
            throw new IllegalArgumentException("not two places of different levels");
        }
        if (!within(seconds, 1, MOST_LIFT_SECONDS)) {
            throw new IllegalArgumentException("seconds out of range");
        }
        if (pieces.size > MOST_PIECES - 2) {
            throw new UnsupportedOperationException("no more pieces");
        }
        int there = pieces.add(a, b, seconds);
        pieces.add(b, a, seconds);
        return there;
    }

    public void limit(int piece, int width, long height) throws IllegalArgumentException {
        if (!pieces.has(piece) || !isSize(width, height)) {
            throw new IllegalArgumentException("no such piece, or a limit out of range");
        }
        pieces.widths[piece] = width;
        pieces.heights[piece] = height;
    }

    public int mover(int width, long height)
            throws IllegalArgumentException, UnsupportedOperationException {
        if (!isSize(width, height)) {
            throw new IllegalArgumentException("width or height out of range");
        }
        if (moverCount >= MOST_MOVERS) {
            throw new UnsupportedOperationException("no more movers");
        }
        if (!pieces.anyFits(width, height)) {
            return NONE;
        }
        moverWidths[moverCount] = width;
        moverHeights[moverCount] = height;
        moverCount++;
        return moverCount - 1;
    }

    public int closed(int piece, boolean on) throws IllegalArgumentException {
        if (!pieces.has(piece)) {
            throw new IllegalArgumentException("no such piece");
        }
        pieces.closedOnes = withBit(pieces.closedOnes, piece, on);
        return Long.bitCount(pieces.closedOnes);
    }

    public int turn(int from, int to, boolean barred) throws IllegalArgumentException {
        if (!pieces.has(from) || !pieces.has(to) || pieces.begins[to] != pieces.ends[from]) {
            throw new IllegalArgumentException("no such turn");
        }
        pieces.barredTurns[from] = withBit(pieces.barredTurns[from], to, barred);
        int back = pieces.isBarred(to, from) ? 1 : 0;
        return barred ? back + 1 : back;
    }

    public int door(int piece, int hour, boolean open) throws IllegalArgumentException {
        if (!pieces.has(piece) || !within(hour, 0, HOURS - 1)) {
            throw new IllegalArgumentException("no such piece or hour");
        }
        pieces.openHours[piece] = withBit(pieces.openHours[piece], hour, open);
        return Long.bitCount(pieces.openHours[piece]);
    }

    public long way(int mover, int a, int b, long t) throws IllegalArgumentException {
        if (!hasMover(mover) || !hasPlace(a) || !hasPlace(b) || !within(t, 0, LAST_START)) {
            throw new IllegalArgumentException("no such mover, place or moment");
        }
        long seconds = leastSeconds(mover, a, b, t);
        lastTold.clear();
        if (a != b && seconds != NONE) {
            leastWays.writeWayTo(pieces, b, lastTold);
        }
        return seconds;
    }

    public int step(int i) {
        return lastTold.at(i);
    }

    public boolean reaches(int mover, int a, int b) throws IllegalArgumentException {
        if (!hasMover(mover) || !hasPlace(a) || !hasPlace(b)) {
            throw new IllegalArgumentException("no such mover or place");
        }
        // A door that has an open hour can be waited for at any time, so one moment tells for all.
        return leastSeconds(mover, a, b, 0) != NONE;
    }

    public int mark(int place)
            throws IllegalArgumentException, IllegalStateException, UnsupportedOperationException {
        if (!hasPlace(place)) {
            throw new IllegalArgumentException("no such place");
        }
        if (isMarked(place)) {
            throw new IllegalStateException("marked before");
        }
        if (markCount >= MOST_MARKS) {
            throw new UnsupportedOperationException("no more marks");
        }
        markedPlaces[markCount] = place;
        markCount++;
        return markCount;
    }

    public long table(int i, int j) throws IllegalArgumentException, IllegalStateException {
        if (!within(i, 0, markCount - 1) || !within(j, 0, markCount - 1)) {
            throw new IllegalArgumentException("no such marked place");
        }
        if (moverCount == 0) {
            throw new IllegalStateException("no mover");
        }
        return leastSeconds(0, markedPlaces[i], markedPlaces[j], 0);
    }

    public long k(int a, int b, int n) throws IllegalArgumentException, IllegalStateException {
        if (!hasPlace(a) || !hasPlace(b) || a == b || !within(n, 0, MOST_RANKS - 1)) {
            throw new IllegalArgumentException("not two places, or no such rank");
        }
        if (moverCount == 0) {
            throw new IllegalStateException("no mover");
        }
        shortWays.search(pieces, pieces.usableBy(moverWidths[0], moverHeights[0]), a, b);
        lastTold.clear();
        if (n >= shortWays.ranked) {
            return NONE;
        }
        shortWays.writeWay(n, lastTold);
        return shortWays.rankedSeconds[n];
    }

    public long told(int piece, int what) throws IllegalArgumentException {
        if (!pieces.has(piece)) {
            throw new IllegalArgumentException("no such piece");
        }
        switch (what) {
            case 0:
                return pieces.begins[piece];
            case 1:
                return pieces.ends[piece];
            case 2:
                return pieces.seconds[piece];
            case 3:
                return hasBit(pieces.closedOnes, piece) ? 1 : 0;
            case 4:
                return pieces.openHours[piece];
            case 5:
                return pieces.widths[piece];
            case 6:
                return pieces.heights[piece];
            default:
                throw new IllegalArgumentException("nothing of that number is told");
        }
    }

    public int count(int what) {
        switch (what) {
            case 0:
                return placeCount;
            case 1:
                return pieces.size;
            case 2:
                return moverCount;
            case 3:
                return markCount;
            case 4:
                return pieces.countBarredTurns();
            default:
                return NONE;
        }
    }

    private boolean hasPlace(int number) {
        return number >= 0 && number < placeCount;
    }

    private boolean hasMover(int number) {
        return number >= 0 && number < moverCount;
    }

    private boolean isMarked(int number) {
        for (int i = 0; i < markCount; i++) {
            if (markedPlaces[i] == number) {
                return true;
            }
        }
        return false;
    }

    /** Leaves the search in leastWays, unless both places are one. */
    private long leastSeconds(int mover, int a, int b, long t) {
        if (a == b) {
            return 0;
        }
        long usable = pieces.usableBy(moverWidths[mover], moverHeights[mover]);
        leastWays.search(pieces, usable, a, t);
        int last = leastWays.lastPieceTo(pieces, b);
        return last == NONE ? NONE : leastWays.reached[last] - t;
    }

    private static boolean isSize(long width, long height) {
        return within(width, 1, MOST_SIZE) && within(height, 1, MOST_SIZE);
    }

    private static boolean within(long value, long least, long most) {
        return value >= least && value <= most;
    }

    private static boolean hasBit(long bits, int number) {
        return (bits >> number & 1L) != 0;
    }

    private static long withBit(long bits, int number, boolean on) {
        long bit = 1L << number;
        return on ? bits | bit : bits & ~bit;
    }

    /** The pieces of a way in their order. */
    private static final class Row {
        final int[] numbers;
        int length;

        Row() {
            numbers = new int[MOST_PIECES];
        }

        void clear() {
            length = 0;
        }

        void append(int number) {
            if (length < MOST_PIECES) {
                numbers[length] = number;
                length++;
            }
        }

        void turnRound() {
            for (int i = 0, j = length - 1; i < j; i++, j--) {
                int number = numbers[i];
                numbers[i] = numbers[j];
                numbers[j] = number;
            }
        }

        int at(int i) {
            return i >= 0 && i < length ? numbers[i] : NONE;
        }
    }

    /** What is known of each piece; sets of pieces and of hours are bits of a long. */
    private static final class Pieces {
        final int[] begins;
        final int[] ends;
        final long[] seconds;
        final int[] widths;
        final long[] heights;
        final long[] openHours;
        /** Of each piece those to which the turn from it is barred. */
        final long[] barredTurns;
        long closedOnes;
        int size;

        Pieces() {
            begins = new int[MOST_PIECES];
            ends = new int[MOST_PIECES];
            seconds = new long[MOST_PIECES];
            widths = new int[MOST_PIECES];
            heights = new long[MOST_PIECES];
            openHours = new long[MOST_PIECES];
            barredTurns = new long[MOST_PIECES];
        }

        boolean has(int number) {
            return number >= 0 && number < size;
        }

        int add(int from, int to, long itsSeconds) {
            if (size >= MOST_PIECES) {
                return NONE;
            }
            begins[size] = from;
            ends[size] = to;
            seconds[size] = itsSeconds;
            widths[size] = FIRST_WIDTH;
            heights[size] = FIRST_HEIGHT;
            openHours[size] = ALL_HOURS_OPEN;
            size++;
            return size - 1;
        }

        boolean isBarred(int from, int to) {
            return hasBit(barredTurns[from], to);
        }

        int countBarredTurns() {
            int sum = 0;
            for (int i = 0; i < size; i++) {
                sum += Long.bitCount(barredTurns[i]);
            }
            return sum;
        }

        boolean fits(int number, int width, long height) {
            return width <= widths[number] && height <= heights[number];
        }

        boolean anyFits(int width, long height) {
            for (int i = 0; i < size; i++) {
                if (fits(i, width, height)) {
                    return true;
                }
            }
            return false;
        }

        long usableBy(int width, long height) {
            long usable = 0;
            for (int i = 0; i < size; i++) {
                boolean passable = openHours[i] != 0 && !hasBit(closedOnes, i);
                usable = withBit(usable, i, passable && fits(i, width, height));
            }
            return usable;
        }

        boolean canFollow(int from, int to) {
            return begins[to] == ends[from] && !isBarred(from, to);
        }

        /** When a mover that uses the piece from the moment on is at its end. */
        long endWhenUsedFrom(int number, long moment) {
            long hour = moment / HOUR_SECONDS;
            for (long later = hour; later < hour + HOURS; later++) {
                if (hasBit(openHours[number], (int) (later % HOURS))) {
                    return Math.max(moment, later * HOUR_SECONDS) + seconds[number];
                }
            }
            return NEVER;
        }
    }

    /**
     * The least moment at which each piece is reached from a place. Pieces are searched, not
     * places, because a barred turn makes it matter by which piece a mover came.
     */
    private static final class LeastWays {
        final long[] reached;
        int start;
        long firstMoment;

        LeastWays() {
            reached = new long[MOST_PIECES];
        }

        void search(Pieces pieces, long usable, int place, long moment) {
            start = place;
            firstMoment = moment;
            for (int i = 0; i < pieces.size; i++) {
                boolean first = hasBit(usable, i) && pieces.begins[i] == place;
                reached[i] = first ? pieces.endWhenUsedFrom(i, moment) : NEVER;
            }
            // Who enters a piece later never leaves it earlier, so the earliest one is final.
            long open = usable;
            for (int round = 0; round < pieces.size; round++) {
                int next = earliestOf(pieces, open);
                if (next == NONE) {
                    return;
                }
                open = withBit(open, next, false);
                goOnFrom(pieces, next, open);
            }
        }

        private int earliestOf(Pieces pieces, long open) {
            int earliest = NONE;
            long least = NEVER;
            for (int i = 0; i < pieces.size; i++) {
                if (hasBit(open, i) && reached[i] < least) {
                    earliest = i;
                    least = reached[i];
                }
            }
            return earliest;
        }

        private void goOnFrom(Pieces pieces, int from, long open) {
            for (int i = 0; i < pieces.size; i++) {
                if (hasBit(open, i) && pieces.canFollow(from, i)) {
                    long end = pieces.endWhenUsedFrom(i, reached[from]);
                    reached[i] = Math.min(reached[i], end);
                }
            }
        }

        int lastPieceTo(Pieces pieces, int place) {
            int last = NONE;
            long least = NEVER;
            for (int i = 0; i < pieces.size; i++) {
                if (pieces.ends[i] == place && reached[i] < least) {
                    last = i;
                    least = reached[i];
                }
            }
            return last;
        }

        void writeWayTo(Pieces pieces, int place, Row row) {
            int number = lastPieceTo(pieces, place);
            for (int i = 0; i < MOST_PIECES && number != NONE; i++) {
                row.append(number);
                number = pieceBefore(pieces, number);
            }
            row.turnRound();
        }

        private int pieceBefore(Pieces pieces, int number) {
            if (pieces.begins[number] == start
                    && pieces.endWhenUsedFrom(number, firstMoment) == reached[number]) {
                return NONE;
            }
            for (int i = 0; i < pieces.size; i++) {
                if (reached[i] < reached[number] && pieces.canFollow(i, number)
                        && pieces.endWhenUsedFrom(number, reached[i]) == reached[number]) {
                    return i;
                }
            }
            return NONE;
        }
    }

    /** The best ways of few pieces from moment 0 on that come to no place twice. */
    private static final class ShortWays {
        final int[] trail;
        /** Of each rank the room for its pieces, one rank behind the other. */
        final int[] rankedPieces;
        final int[] rankedLengths;
        final long[] rankedSeconds;
        int ranked;
        long usable;
        int goal;

        ShortWays() {
            trail = new int[MOST_SHORT_PIECES];
            rankedPieces = new int[MOST_RANKS * MOST_SHORT_PIECES];
            rankedLengths = new int[MOST_RANKS];
            rankedSeconds = new long[MOST_RANKS];
        }

        void search(Pieces pieces, long usableOnes, int from, int to) {
            usable = usableOnes;
            goal = to;
            ranked = 0;
            extend(pieces, from, 0, 0, withBit(0, from, true));
        }

        /** Tries the pieces by their numbers, so that ways come in the order of their pieces. */
        private void extend(Pieces pieces, int place, int length, long moment, long visited) {
            if (length >= MOST_SHORT_PIECES) {
                return;
            }
            for (int i = 0; i < pieces.size; i++) {
                if (canBeNext(pieces, i, place, length) && !hasBit(visited, pieces.ends[i])) {
                    goBy(pieces, i, length, moment, visited);
                }
            }
        }

        private void goBy(Pieces pieces, int number, int length, long moment, long visited) {
            int to = pieces.ends[number];
            long end = pieces.endWhenUsedFrom(number, moment);
            trail[length] = number;
            if (to == goal) {
                keep(length + 1, end);
            } else if (rankOf(end) < MOST_RANKS) {
                extend(pieces, to, length + 1, end, withBit(visited, to, true));
            }
        }

        private boolean canBeNext(Pieces pieces, int number, int place, int length) {
            return hasBit(usable, number) && pieces.begins[number] == place
                    && (length == 0 || !pieces.isBarred(trail[length - 1], number));
        }

        /** Behind equal ones: those were found before, so their pieces' numbers come first. */
        private int rankOf(long seconds) {
            int rank = 0;
            while (rank < ranked && rankedSeconds[rank] <= seconds) {
                rank++;
            }
            return rank;
        }

        private void keep(int length, long seconds) {
            int rank = rankOf(seconds);
            if (rank >= MOST_RANKS) {
                return;
            }
            for (int i = MOST_RANKS - 1; i > rank; i--) {
                rankedSeconds[i] = rankedSeconds[i - 1];
                rankedLengths[i] = rankedLengths[i - 1];
                System.arraycopy(rankedPieces, (i - 1) * MOST_SHORT_PIECES,
                        rankedPieces, i * MOST_SHORT_PIECES, MOST_SHORT_PIECES);
            }
            rankedSeconds[rank] = seconds;
            rankedLengths[rank] = length;
            System.arraycopy(trail, 0, rankedPieces, rank * MOST_SHORT_PIECES, length);
            ranked = Math.min(ranked + 1, MOST_RANKS);
        }

        void writeWay(int rank, Row row) {
            for (int i = 0; i < rankedLengths[rank]; i++) {
                row.append(rankedPieces[rank * MOST_SHORT_PIECES + i]);
            }
        }
    }
}
