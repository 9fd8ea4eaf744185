import java.util.ArrayList;
import java.util.Comparator;
import java.util.HashSet;
import java.util.List;
import java.util.Set;

/** The document once more, written for plainness alone: what the class must answer alike. */
final class SlowWayGraph {

    private static final class Piece {
        int begin;
        int end;
        long seconds;
        int width = 2000;
        long height = 3000;
        boolean closed;
        boolean[] open = new boolean[24];
        Set<Integer> barred = new HashSet<>();

        int openHours() {
            int sum = 0;
            for (boolean hour : open) {
                sum += hour ? 1 : 0;
            }
            return sum;
        }

        boolean fits(long[] mover) {
            return mover[0] <= width && mover[1] <= height;
        }

        boolean usable(long[] mover) {
            return fits(mover) && !closed && openHours() > 0;
        }

        long leave(long moment) {
            long entry = moment;
            while (!open[(int) (entry / 3600 % 24)]) {
                entry = (entry / 3600 + 1) * 3600;
            }
            return entry + seconds;
        }
    }

    private record Way(long seconds, List<Integer> pieces) {
        static int byPieces(Way one, Way other) {
            for (int i = 0; i < one.pieces.size() && i < other.pieces.size(); i++) {
                int order = Integer.compare(one.pieces.get(i), other.pieces.get(i));
                if (order != 0) {
                    return order;
                }
            }
            return Integer.compare(one.pieces.size(), other.pieces.size());
        }
    }

    private final List<Integer> levels = new ArrayList<>();
    private final List<Piece> pieces = new ArrayList<>();
    private final List<long[]> movers = new ArrayList<>();
    private final List<Integer> marks = new ArrayList<>();
    private List<Integer> last = List.of();

    private static void demand(boolean holds) {
        if (!holds) {
            throw new IllegalArgumentException();
        }
    }

    private static void room(boolean holds) {
        if (!holds) {
            throw new UnsupportedOperationException();
        }
    }

    private static boolean in(long x, long least, long most) {
        return least <= x && x <= most;
    }

    private void demandPlaces(int a, int b) {
        demand(in(a, 0, levels.size() - 1) && in(b, 0, levels.size() - 1));
    }

    private Piece the(int piece) {
        demand(in(piece, 0, pieces.size() - 1));
        return pieces.get(piece);
    }

    int place(int level) {
        demand(in(level, 0, 9));
        room(levels.size() < 20);
        levels.add(level);
        return levels.size() - 1;
    }

    private int newPiece(int a, int b, long seconds) {
        Piece piece = new Piece();
        piece.begin = a;
        piece.end = b;
        piece.seconds = seconds;
        java.util.Arrays.fill(piece.open, true);
        pieces.add(piece);
        return pieces.size() - 1;
    }

    int piece(int a, int b, long length, long speed) {
        demandPlaces(a, b);
        demand(a != b && levels.get(a).equals(levels.get(b)));
        demand(in(length, 1, 10000000) && in(speed, 0, 10000));
        long seconds = length / speed + (length % speed == 0 ? 0 : 1);
        room(pieces.size() < 40);
        return newPiece(a, b, seconds);
    }

    int lift(int a, int b, long seconds) {
        demandPlaces(a, b);
        demand(!levels.get(a).equals(levels.get(b)) && in(seconds, 1, 10000));
        room(pieces.size() <= 38);
        int there = newPiece(a, b, seconds);
        newPiece(b, a, seconds);
        return there;
    }

    void limit(int piece, int width, long height) {
        demand(in(width, 1, 10000) && in(height, 1, 10000));
        the(piece).width = width;
        the(piece).height = height;
    }

    int mover(int width, long height) {
        demand(in(width, 1, 10000) && in(height, 1, 10000));
        room(movers.size() < 6);
        long[] mover = {width, height};
        for (Piece piece : pieces) {
            if (piece.fits(mover)) {
                movers.add(mover);
                return movers.size() - 1;
            }
        }
        return -1;
    }

    int closed(int piece, boolean on) {
        the(piece).closed = on;
        return (int) pieces.stream().filter(p -> p.closed).count();
    }

    int turn(int from, int to, boolean barred) {
        demand(the(from).end == the(to).begin);
        if (barred) {
            the(from).barred.add(to);
        } else {
            the(from).barred.remove(to);
        }
        return (the(from).barred.contains(to) ? 1 : 0) + (the(to).barred.contains(from) ? 1 : 0);
    }

    int door(int piece, int hour, boolean open) {
        demand(in(hour, 0, 23));
        the(piece).open[hour] = open;
        return the(piece).openHours();
    }

    private boolean follows(int from, int to) {
        return pieces.get(from).end == pieces.get(to).begin && !pieces.get(from).barred.contains(to);
    }

    /** Of each piece the least moment of its end, -1 if it is not reached. */
    private long[] reached(long[] mover, int a, long t) {
        long[] reached = new long[pieces.size()];
        java.util.Arrays.fill(reached, -1);
        boolean changed = true;
        while (changed) {
            changed = false;
            for (int i = 0; i < reached.length; i++) {
                long least = leastEnd(reached, mover, i, a, t);
                changed |= least != reached[i];
                reached[i] = least;
            }
        }
        return reached;
    }

    private long leastEnd(long[] reached, long[] mover, int number, int a, long t) {
        Piece piece = pieces.get(number);
        if (!piece.usable(mover)) {
            return -1;
        }
        if (piece.begin == a) {
            return piece.leave(t);
        }
        long least = -1;
        for (int i = 0; i < reached.length; i++) {
            if (reached[i] >= 0 && follows(i, number)) {
                long end = piece.leave(reached[i]);
                least = least < 0 || end < least ? end : least;
            }
        }
        return least;
    }

    private int before(long[] reached, int number, int a, long t) {
        Piece piece = pieces.get(number);
        if (piece.begin == a && piece.leave(t) == reached[number]) {
            return -1;
        }
        for (int i = 0; i < reached.length; i++) {
            if (reached[i] >= 0 && follows(i, number) && piece.leave(reached[i]) == reached[number]) {
                return i;
            }
        }
        throw new AssertionError("no piece before");
    }

    private Way leastWay(int mover, int a, int b, long t) {
        if (a == b) {
            return new Way(0, List.of());
        }
        long[] reached = reached(movers.get(mover), a, t);
        int end = -1;
        for (int i = 0; i < reached.length; i++) {
            if (reached[i] >= 0 && pieces.get(i).end == b && (end < 0 || reached[i] < reached[end])) {
                end = i;
            }
        }
        List<Integer> row = new ArrayList<>();
        for (int i = end; i >= 0; i = before(reached, i, a, t)) {
            row.add(0, i);
        }
        return new Way(end < 0 ? -1 : reached[end] - t, row);
    }

    long way(int mover, int a, int b, long t) {
        demandPlaces(a, b);
        demand(in(mover, 0, movers.size() - 1) && in(t, 0, 10000000));
        Way way = leastWay(mover, a, b, t);
        last = way.pieces;
        return way.seconds;
    }

    int step(int i) {
        return in(i, 0, last.size() - 1) ? last.get(i) : -1;
    }

    boolean reaches(int mover, int a, int b) {
        demandPlaces(a, b);
        demand(in(mover, 0, movers.size() - 1));
        return leastWay(mover, a, b, 5000000).seconds >= 0;
    }

    int mark(int place) {
        demandPlaces(place, place);
        if (marks.contains(place)) {
            throw new IllegalStateException();
        }
        room(marks.size() < 8);
        marks.add(place);
        return marks.size();
    }

    private void demandMover() {
        if (movers.isEmpty()) {
            throw new IllegalStateException();
        }
    }

    long table(int i, int j) {
        demand(in(i, 0, marks.size() - 1) && in(j, 0, marks.size() - 1));
        demandMover();
        return leastWay(0, marks.get(i), marks.get(j), 0).seconds;
    }

    private void collect(List<Way> ways, List<Integer> row, List<Integer> visited, int b, long moment) {
        int at = visited.get(visited.size() - 1);
        if (at == b) {
            ways.add(new Way(moment, new ArrayList<>(row)));
        }
        for (int i = 0; i < pieces.size() && row.size() < 5; i++) {
            Piece piece = pieces.get(i);
            boolean turns = row.isEmpty() || follows(row.get(row.size() - 1), i);
            if (piece.begin == at && turns && piece.usable(movers.get(0)) && !visited.contains(piece.end)) {
                row.add(i);
                visited.add(piece.end);
                collect(ways, row, visited, b, piece.leave(moment));
                row.remove(row.size() - 1);
                visited.remove(visited.size() - 1);
            }
        }
    }

    long k(int a, int b, int n) {
        demandPlaces(a, b);
        demand(a != b && in(n, 0, 4));
        demandMover();
        List<Way> ways = new ArrayList<>();
        collect(ways, new ArrayList<>(), new ArrayList<>(List.of(a)), b, 0);
        Comparator<Way> order = Comparator.comparingLong(Way::seconds);
        ways.sort(order.thenComparing(Way::byPieces));
        last = n < ways.size() ? ways.get(n).pieces : List.of();
        return n < ways.size() ? ways.get(n).seconds : -1;
    }

    long told(int piece, int what) {
        Piece it = the(piece);
        long bits = 0;
        for (int hour = 0; hour < 24; hour++) {
            bits += it.open[hour] ? 1L << hour : 0;
        }
        demand(in(what, 0, 6));
        return new long[] {it.begin, it.end, it.seconds, it.closed ? 1 : 0, bits, it.width, it.height}[what];
    }

    int count(int what) {
        int barred = pieces.stream().mapToInt(p -> p.barred.size()).sum();
        int[] counts = {levels.size(), pieces.size(), movers.size(), marks.size(), barred};
        return in(what, 0, 4) ? counts[what] : -1;
    }
}
