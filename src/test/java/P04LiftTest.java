/** Promise 4. */
public final class P04LiftTest {

    private static final Check CHECK = new Check("Promise 4");

    public static void main(String[] args) {
        CHECK.sentence("the number of its piece from a to b; that back has the next one", P04LiftTest::numbers);
        CHECK.sentence("A lift of so many seconds (1 .. 10000)", P04LiftTest::seconds);
        CHECK.sentence("IllegalArgumentException if there are no such places", P04LiftTest::noSuchPlaces);
        CHECK.sentence("they are of one level", P04LiftTest::oneLevel);
        CHECK.sentence("or seconds is out of range", P04LiftTest::secondsRefused);
        CHECK.sentence("UnsupportedOperationException if there are more than 38", P04LiftTest::moreThan38);
        CHECK.sentence("IllegalArgumentException .. ; UnsupportedOperationException (both)", P04LiftTest::bothWrong);
        CHECK.finish();
    }

    private static void numbers() {
        WayGraph graph = Graphs.onLevels(0, 0, 1);
        CHECK.due(0, "lift(1, 2, 40)", () -> graph.lift(1, 2, 40));
        CHECK.due(2, "lift(2, 0, 7)", () -> graph.lift(2, 0, 7));
        CHECK.due(4, "lift(1, 2, 40) again", () -> graph.lift(1, 2, 40));
        CHECK.due(6, "count(1)", () -> graph.count(1));
        piece(graph, 0, 1, 2, 40);
        piece(graph, 1, 2, 1, 40);
        piece(graph, 2, 2, 0, 7);
        piece(graph, 3, 0, 2, 7);
    }

    private static void piece(WayGraph graph, int piece, int begin, int end, long seconds) {
        CHECK.due(begin, "begin of piece " + piece, () -> graph.told(piece, 0));
        CHECK.due(end, "end of piece " + piece, () -> graph.told(piece, 1));
        CHECK.due(seconds, "seconds of piece " + piece, () -> graph.told(piece, 2));
        CHECK.due(0, "closed piece " + piece, () -> graph.told(piece, 3));
        CHECK.due(Graphs.ALL_HOURS, "hours of piece " + piece, () -> graph.told(piece, 4));
        CHECK.due(2000, "width of piece " + piece, () -> graph.told(piece, 5));
        CHECK.due(3000, "height of piece " + piece, () -> graph.told(piece, 6));
    }

    private static void seconds() {
        WayGraph graph = Graphs.onLevels(0, 9);
        CHECK.due(0, "seconds 1", () -> graph.lift(0, 1, 1));
        CHECK.due(2, "seconds 10000", () -> graph.lift(0, 1, 10000));
        CHECK.due(1, "told of 1", () -> graph.told(0, 2));
        CHECK.due(1, "told of 1, back", () -> graph.told(1, 2));
        CHECK.due(10000, "told of 10000", () -> graph.told(2, 2));
        CHECK.due(10000, "told of 10000, back", () -> graph.told(3, 2));
    }

    private static void noSuchPlaces() {
        WayGraph graph = Graphs.onLevels(0, 5, 1);
        CHECK.due(0, "from the last place to the first", () -> graph.lift(2, 0, 5));
        CHECK.unchanged(graph, () -> {
            for (int bad : new int[] {-1, 3, 19, 20, Integer.MIN_VALUE, Integer.MAX_VALUE}) {
                CHECK.badArgument("from " + bad, () -> graph.lift(bad, 1, 5));
                CHECK.badArgument("to " + bad, () -> graph.lift(1, bad, 5));
            }
            CHECK.badArgument("from -1 to 3", () -> graph.lift(-1, 3, 5));
        });
    }

    private static void oneLevel() {
        WayGraph graph = Graphs.onLevels(0, 0, 9, 9, 8);
        CHECK.badArgument("on level 0", () -> graph.lift(0, 1, 5));
        CHECK.badArgument("on level 9", () -> graph.lift(3, 2, 5));
        CHECK.badArgument("a place and itself", () -> graph.lift(2, 2, 5));
        CHECK.due(0, "count(1)", () -> graph.count(1));
        CHECK.due(0, "from level 9 to 8", () -> graph.lift(2, 4, 5));
        CHECK.due(2, "from level 0 to 9", () -> graph.lift(0, 3, 5));
    }

    private static void secondsRefused() {
        WayGraph graph = Graphs.onLevels(0, 1);
        CHECK.unchanged(graph, () -> {
            for (long bad : new long[] {0, 10001, -1, 1L << 32, (1L << 32) + 1, Long.MIN_VALUE, Long.MAX_VALUE}) {
                CHECK.badArgument("seconds " + bad, () -> graph.lift(0, 1, bad));
            }
        });
    }

    private static void moreThan38() {
        WayGraph even = Graphs.withPieces(38);
        CHECK.due(38, "lift with 38 there", () -> even.lift(0, 2, 5));
        CHECK.due(2, "begin of the last piece", () -> even.told(39, 0));
        CHECK.full("lift with 40 there", () -> even.lift(0, 2, 5));
        CHECK.due(40, "count(1) behind it", () -> even.count(1));
        WayGraph odd = Graphs.withPieces(39);
        CHECK.full("lift with 39 there", () -> odd.lift(0, 2, 5));
        CHECK.due(39, "count(1) behind that", () -> odd.count(1));
        CHECK.due(39, "a piece still finds room", () -> odd.piece(0, 1, 5, 5));
    }

    private static void bothWrong() {
        for (int pieces = 39; pieces <= 40; pieces++) {
            WayGraph graph = Graphs.withPieces(pieces);
            CHECK.badArgument("one level, " + pieces + " there", () -> graph.lift(0, 1, 5));
            CHECK.badArgument("seconds 0, " + pieces + " there", () -> graph.lift(0, 2, 0));
            CHECK.badArgument("no such place, " + pieces + " there", () -> graph.lift(0, 3, 5));
        }
    }
}
