/** Promises 1 to 9, 16 and 17: what is there, and how it is changed. */
public final class BuildingTest {

    private static final int ALL_HOURS = 0xffffff;
    private static final Check CHECK = new Check();

    public static void main(String[] args) {
        newObject();
        places();
        placesAreFew();
        pieces();
        piecesRefused();
        piecesAreFew();
        lifts();
        liftsRefused();
        liftsAreFew();
        limits();
        movers();
        moversAreFew();
        closing();
        turns();
        turnsRefused();
        doors();
        toldAndCount();
        CHECK.finish();
    }

    /** Places 0, 1, 2 on level 0 and 3 on level 1; nothing else. */
    private static WayGraph fourPlaces() {
        WayGraph graph = new WayGraph();
        graph.place(0);
        graph.place(0);
        graph.place(0);
        graph.place(1);
        return graph;
    }

    private static void newObject() {
        WayGraph graph = new WayGraph();
        for (int what = 0; what <= 4; what++) {
            int asked = what;
            CHECK.due(0, "new: count(" + what + ")", () -> graph.count(asked));
        }
        CHECK.due(-1, "new: step(0)", () -> graph.step(0));
        CHECK.badArgument("new: told(0, 0)", () -> graph.told(0, 0));
        CHECK.badArgument("new: table(0, 0)", () -> graph.table(0, 0));
        CHECK.badArgument("new: reaches(0, 0, 0)", () -> graph.reaches(0, 0, 0) ? 1 : 0);
        CHECK.badArgument("new: k(0, 1, 0)", () -> graph.k(0, 1, 0));
        CHECK.badArgument("new: mark(0)", () -> graph.mark(0));
        CHECK.due(-1, "new: mover(1, 1)", () -> graph.mover(1, 1));
    }

    private static void places() {
        WayGraph graph = new WayGraph();
        CHECK.due(0, "place(0)", () -> graph.place(0));
        CHECK.due(1, "place(9)", () -> graph.place(9));
        CHECK.badArgument("place(-1)", () -> graph.place(-1));
        CHECK.badArgument("place(10)", () -> graph.place(10));
        CHECK.badArgument("place(least int)", () -> graph.place(Integer.MIN_VALUE));
        CHECK.due(2, "count(0) after refusals", () -> graph.count(0));
        CHECK.due(2, "place(9) again", () -> graph.place(9));
    }

    private static void placesAreFew() {
        WayGraph graph = new WayGraph();
        for (int i = 0; i < 20; i++) {
            int number = i;
            CHECK.due(number, "place " + i, () -> graph.place(number % 10));
        }
        CHECK.full("place 20", () -> graph.place(0));
        CHECK.badArgument("place(10) when full", () -> graph.place(10));
        CHECK.due(20, "count(0) when full", () -> graph.count(0));
    }

    private static void pieces() {
        WayGraph graph = fourPlaces();
        CHECK.due(0, "piece(0, 1, 1000, 100)", () -> graph.piece(0, 1, 1000, 100));
        CHECK.due(1, "piece(1, 0, 1001, 100)", () -> graph.piece(1, 0, 1001, 100));
        CHECK.due(2, "piece(0, 1, 1, 10000)", () -> graph.piece(0, 1, 1, 10000));
        CHECK.due(3, "piece(2, 0, 10000000, 1)", () -> graph.piece(2, 0, 10000000, 1));
        CHECK.due(10, "seconds without a rest", () -> graph.told(0, 2));
        CHECK.due(11, "seconds rounded up", () -> graph.told(1, 2));
        CHECK.due(1, "seconds of the shortest", () -> graph.told(2, 2));
        CHECK.due(10000000, "seconds of the longest", () -> graph.told(3, 2));
        CHECK.due(2, "begin of piece 3", () -> graph.told(3, 0));
        CHECK.due(0, "end of piece 3", () -> graph.told(3, 1));
        CHECK.due(4, "count(1)", () -> graph.count(1));
    }

    private static void piecesRefused() {
        WayGraph graph = fourPlaces();
        CHECK.badArgument("piece(-1, 1, ..)", () -> graph.piece(-1, 1, 5, 5));
        CHECK.badArgument("piece(0, 4, ..)", () -> graph.piece(0, 4, 5, 5));
        CHECK.badArgument("piece(4, 0, ..)", () -> graph.piece(4, 0, 5, 5));
        CHECK.badArgument("piece(0, -1, ..)", () -> graph.piece(0, -1, 5, 5));
        CHECK.badArgument("piece(1, 1, ..)", () -> graph.piece(1, 1, 5, 5));
        CHECK.badArgument("piece between levels", () -> graph.piece(0, 3, 5, 5));
        CHECK.badArgument("length 0", () -> graph.piece(0, 1, 0, 5));
        CHECK.badArgument("length 10000001", () -> graph.piece(0, 1, 10000001, 5));
        CHECK.badArgument("speed -1", () -> graph.piece(0, 1, 5, -1));
        CHECK.badArgument("speed 10001", () -> graph.piece(0, 1, 5, 10001));
        CHECK.badArgument("length 1 + 2^32", () -> graph.piece(0, 1, 1L + (1L << 32), 5));
        CHECK.refuses(ArithmeticException.class, "speed 0", () -> graph.piece(0, 1, 5, 0));
        CHECK.badArgument("speed 0, length 0", () -> graph.piece(0, 1, 0, 0));
        CHECK.badArgument("speed 0, one place", () -> graph.piece(0, 0, 5, 0));
        CHECK.due(0, "count(1) after refusals", () -> graph.count(1));
    }

    private static void piecesAreFew() {
        WayGraph graph = fourPlaces();
        for (int i = 0; i < 40; i++) {
            int number = i;
            CHECK.due(number, "piece " + i, () -> graph.piece(0, 1, 1 + number, 1));
        }
        CHECK.full("piece 40", () -> graph.piece(0, 1, 5, 5));
        CHECK.badArgument("bad piece when full", () -> graph.piece(0, 1, 0, 5));
        CHECK.refuses(ArithmeticException.class, "speed 0 when full", () -> graph.piece(0, 1, 5, 0));
        CHECK.due(40, "count(1) when full", () -> graph.count(1));
        CHECK.due(40, "seconds of piece 39", () -> graph.told(39, 2));
        CHECK.due(1, "closed(39, true)", () -> graph.closed(39, true));
        CHECK.due(1, "piece 39 is closed", () -> graph.told(39, 3));
        CHECK.due(0, "piece 7 is not", () -> graph.told(7, 3));
    }

    private static void lifts() {
        WayGraph graph = fourPlaces();
        graph.piece(0, 1, 5, 5);
        CHECK.due(1, "lift(2, 3, 40)", () -> graph.lift(2, 3, 40));
        CHECK.due(3, "lift(3, 0, 10000)", () -> graph.lift(3, 0, 10000));
        CHECK.due(5, "lift(0, 3, 1)", () -> graph.lift(0, 3, 1));
        CHECK.due(7, "count(1)", () -> graph.count(1));
        CHECK.due(2, "there begins", () -> graph.told(1, 0));
        CHECK.due(3, "there ends", () -> graph.told(1, 1));
        CHECK.due(40, "there takes", () -> graph.told(1, 2));
        CHECK.due(3, "back begins", () -> graph.told(2, 0));
        CHECK.due(2, "back ends", () -> graph.told(2, 1));
        CHECK.due(40, "back takes", () -> graph.told(2, 2));
        CHECK.due(2000, "back's width", () -> graph.told(2, 5));
        CHECK.due(3000, "back's height", () -> graph.told(2, 6));
        CHECK.due(ALL_HOURS, "back's hours", () -> graph.told(2, 4));
    }

    private static void liftsRefused() {
        WayGraph graph = fourPlaces();
        CHECK.badArgument("lift on one level", () -> graph.lift(0, 1, 5));
        CHECK.badArgument("lift at one place", () -> graph.lift(3, 3, 5));
        CHECK.badArgument("lift(-1, 3, 5)", () -> graph.lift(-1, 3, 5));
        CHECK.badArgument("lift(3, 4, 5)", () -> graph.lift(3, 4, 5));
        CHECK.badArgument("lift(4, 3, 5)", () -> graph.lift(4, 3, 5));
        CHECK.badArgument("lift(3, -1, 5)", () -> graph.lift(3, -1, 5));
        CHECK.badArgument("seconds 0", () -> graph.lift(0, 3, 0));
        CHECK.badArgument("seconds 10001", () -> graph.lift(0, 3, 10001));
        CHECK.badArgument("seconds 1 + 2^32", () -> graph.lift(0, 3, 1L + (1L << 32)));
        CHECK.due(0, "count(1) after refusals", () -> graph.count(1));
    }

    private static void liftsAreFew() {
        WayGraph graph = fourPlaces();
        for (int i = 0; i < 38; i++) {
            graph.piece(0, 1, 5, 5);
        }
        CHECK.due(38, "lift with 38 pieces", () -> graph.lift(0, 3, 5));
        CHECK.full("lift with 40 pieces", () -> graph.lift(0, 3, 5));
        CHECK.badArgument("bad lift with 40 pieces", () -> graph.lift(0, 1, 5));

        WayGraph odd = fourPlaces();
        for (int i = 0; i < 39; i++) {
            odd.piece(0, 1, 5, 5);
        }
        CHECK.full("lift with 39 pieces", () -> odd.lift(0, 3, 5));
        CHECK.due(39, "count(1) behind it", () -> odd.count(1));
        CHECK.due(39, "piece 39", () -> odd.piece(0, 1, 5, 5));
    }

    private static void limits() {
        WayGraph graph = fourPlaces();
        graph.piece(0, 1, 5, 5);
        graph.piece(0, 1, 5, 5);
        CHECK.due(2000, "width at first", () -> graph.told(0, 5));
        CHECK.due(3000, "height at first", () -> graph.told(0, 6));
        graph.limit(0, 1, 10000);
        CHECK.due(1, "width 1", () -> graph.told(0, 5));
        CHECK.due(10000, "height 10000", () -> graph.told(0, 6));
        graph.limit(0, 10000, 1);
        CHECK.due(10000, "width 10000", () -> graph.told(0, 5));
        CHECK.due(1, "height 1", () -> graph.told(0, 6));
        CHECK.due(2000, "width of the other", () -> graph.told(1, 5));
        refuseLimit(graph, -1, 5, 5);
        refuseLimit(graph, 2, 5, 5);
        refuseLimit(graph, 0, 0, 5);
        refuseLimit(graph, 0, 10001, 5);
        refuseLimit(graph, 0, 5, 0);
        refuseLimit(graph, 0, 5, 10001);
        refuseLimit(graph, 0, 5, 1L + (1L << 32));
        CHECK.due(10000, "width after refusals", () -> graph.told(0, 5));
        CHECK.due(1, "height after refusals", () -> graph.told(0, 6));
    }

    private static void refuseLimit(WayGraph graph, int piece, int width, long height) {
        CHECK.badArgument("limit(" + piece + ", " + width + ", " + height + ")", () -> {
            graph.limit(piece, width, height);
            return 0;
        });
    }

    private static void movers() {
        WayGraph graph = fourPlaces();
        CHECK.due(-1, "mover without pieces", () -> graph.mover(1, 1));
        graph.piece(0, 1, 5, 5);
        CHECK.due(0, "mover(2000, 3000)", () -> graph.mover(2000, 3000));
        CHECK.due(-1, "mover(2001, 3000)", () -> graph.mover(2001, 3000));
        CHECK.due(-1, "mover(2000, 3001)", () -> graph.mover(2000, 3001));
        CHECK.due(1, "count(2) behind -1", () -> graph.count(2));
        CHECK.badArgument("width 0", () -> graph.mover(0, 5));
        CHECK.badArgument("width 10001", () -> graph.mover(10001, 5));
        CHECK.badArgument("height 0", () -> graph.mover(5, 0));
        CHECK.badArgument("height 10001", () -> graph.mover(5, 10001));
        CHECK.badArgument("height 1 + 2^32", () -> graph.mover(5, 1L + (1L << 32)));

        graph.piece(0, 1, 5, 5);
        graph.limit(0, 10000, 1);
        graph.limit(1, 1, 10000);
        CHECK.due(-1, "fits each in one way only", () -> graph.mover(2, 2));
        CHECK.due(1, "fits the first", () -> graph.mover(10000, 1));
        CHECK.due(2, "fits the second", () -> graph.mover(1, 10000));
        graph.limit(1, 1, 1);
        graph.limit(0, 1, 1);
        graph.closed(0, true);
        graph.closed(1, true);
        CHECK.due(3, "fits closed pieces too", () -> graph.mover(1, 1));
    }

    private static void moversAreFew() {
        WayGraph graph = fourPlaces();
        graph.piece(0, 1, 5, 5);
        for (int i = 0; i < 6; i++) {
            int number = i;
            CHECK.due(number, "mover " + i, () -> graph.mover(1 + number, 1));
        }
        CHECK.full("mover 6", () -> graph.mover(1, 1));
        CHECK.full("mover 6 that fits none", () -> graph.mover(9999, 1));
        CHECK.badArgument("bad mover when full", () -> graph.mover(0, 1));
        CHECK.due(6, "count(2)", () -> graph.count(2));
    }

    private static void closing() {
        WayGraph graph = fourPlaces();
        graph.piece(0, 1, 5, 5);
        graph.piece(1, 0, 5, 5);
        CHECK.due(1, "closed(1, true)", () -> graph.closed(1, true));
        CHECK.due(1, "closed(1, true) again", () -> graph.closed(1, true));
        CHECK.due(2, "closed(0, true)", () -> graph.closed(0, true));
        CHECK.due(1, "told(0, 3)", () -> graph.told(0, 3));
        CHECK.due(1, "closed(0, false)", () -> graph.closed(0, false));
        CHECK.due(0, "told(0, 3) open", () -> graph.told(0, 3));
        CHECK.due(1, "told(1, 3) closed", () -> graph.told(1, 3));
        CHECK.due(1, "closed(0, false) again", () -> graph.closed(0, false));
        CHECK.due(0, "closed(1, false)", () -> graph.closed(1, false));
        CHECK.badArgument("closed(2, true)", () -> graph.closed(2, true));
        CHECK.badArgument("closed(-1, false)", () -> graph.closed(-1, false));
    }

    private static void turns() {
        WayGraph graph = fourPlaces();
        graph.piece(0, 1, 5, 5);
        graph.piece(1, 0, 5, 5);
        graph.piece(1, 2, 5, 5);
        CHECK.due(1, "turn(0, 2, true)", () -> graph.turn(0, 2, true));
        CHECK.due(1, "turn(0, 2, true) again", () -> graph.turn(0, 2, true));
        CHECK.due(1, "turn(0, 1, true)", () -> graph.turn(0, 1, true));
        CHECK.due(2, "turn(1, 0, true)", () -> graph.turn(1, 0, true));
        CHECK.due(3, "count(4)", () -> graph.count(4));
        CHECK.due(1, "turn(0, 1, false)", () -> graph.turn(0, 1, false));
        CHECK.due(1, "turn(0, 1, false) again", () -> graph.turn(0, 1, false));
        CHECK.due(2, "count(4) after one", () -> graph.count(4));
        CHECK.due(0, "turn(1, 0, false)", () -> graph.turn(1, 0, false));
        CHECK.due(0, "turn(0, 2, false)", () -> graph.turn(0, 2, false));
        CHECK.due(0, "count(4) after all", () -> graph.count(4));
    }

    private static void turnsRefused() {
        WayGraph graph = fourPlaces();
        graph.piece(0, 1, 5, 5);
        graph.piece(1, 2, 5, 5);
        CHECK.badArgument("turn(1, 0, true)", () -> graph.turn(1, 0, true));
        CHECK.badArgument("turn(0, 0, true)", () -> graph.turn(0, 0, true));
        CHECK.badArgument("turn(0, 2, true)", () -> graph.turn(0, 2, true));
        CHECK.badArgument("turn(2, 0, true)", () -> graph.turn(2, 0, true));
        CHECK.badArgument("turn(-1, 0, true)", () -> graph.turn(-1, 0, true));
        CHECK.badArgument("turn(0, -1, false)", () -> graph.turn(0, -1, false));
        CHECK.due(0, "count(4) after refusals", () -> graph.count(4));
    }

    private static void doors() {
        WayGraph graph = fourPlaces();
        graph.piece(0, 1, 5, 5);
        graph.piece(0, 1, 5, 5);
        CHECK.due(24, "door(0, 3, true)", () -> graph.door(0, 3, true));
        CHECK.due(23, "door(0, 0, false)", () -> graph.door(0, 0, false));
        CHECK.due(22, "door(0, 23, false)", () -> graph.door(0, 23, false));
        CHECK.due(22, "door(0, 23, false) again", () -> graph.door(0, 23, false));
        CHECK.due(ALL_HOURS & ~1 & ~(1 << 23), "hours as bits", () -> graph.told(0, 4));
        CHECK.due(ALL_HOURS, "hours of the other", () -> graph.told(1, 4));
        CHECK.due(23, "door(0, 0, true)", () -> graph.door(0, 0, true));
        CHECK.badArgument("hour -1", () -> graph.door(0, -1, true));
        CHECK.badArgument("hour 24", () -> graph.door(0, 24, true));
        CHECK.badArgument("piece 2", () -> graph.door(2, 0, true));
        CHECK.badArgument("piece -1", () -> graph.door(-1, 0, true));
        for (int hour = 0; hour < 24; hour++) {
            graph.door(1, hour, false);
        }
        CHECK.due(0, "all hours shut", () -> graph.told(1, 4));
    }

    private static void toldAndCount() {
        WayGraph graph = fourPlaces();
        graph.piece(1, 2, 12, 5);
        graph.limit(0, 7, 8);
        long[] due = {1, 2, 3, 0, ALL_HOURS, 7, 8};
        for (int what = 0; what < due.length; what++) {
            int asked = what;
            CHECK.due(due[what], "told(0, " + what + ")", () -> graph.told(0, asked));
        }
        CHECK.badArgument("told(0, 7)", () -> graph.told(0, 7));
        CHECK.badArgument("told(0, -1)", () -> graph.told(0, -1));
        CHECK.badArgument("told(1, 0)", () -> graph.told(1, 0));
        CHECK.badArgument("told(-1, 0)", () -> graph.told(-1, 0));
        CHECK.badArgument("told(40, 0)", () -> graph.told(40, 0));

        graph.mover(1, 1);
        graph.mover(1, 1);
        graph.mark(2);
        graph.piece(2, 0, 1, 1);
        graph.piece(2, 1, 1, 1);
        graph.turn(0, 1, true);
        graph.turn(0, 2, true);
        graph.turn(2, 0, true);
        long[] counts = {4, 3, 2, 1, 3};
        for (int what = 0; what < counts.length; what++) {
            int asked = what;
            CHECK.due(counts[what], "count(" + what + ")", () -> graph.count(asked));
        }
        CHECK.due(-1, "count(5)", () -> graph.count(5));
        CHECK.due(-1, "count(-1)", () -> graph.count(-1));
    }
}
