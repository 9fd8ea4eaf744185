/** Promise 3. */
public final class P03PieceTest {

    private static final Check CHECK = new Check("Promise 3");

    public static void main(String[] args) {
        CHECK.sentence("A piece: its number", P03PieceTest::numbers);
        CHECK.sentence("IllegalArgumentException if there are no such places", P03PieceTest::noSuchPlaces);
        CHECK.sentence("they are the same", P03PieceTest::samePlaces);
        CHECK.sentence("or of different levels", P03PieceTest::levels);
        CHECK.sentence("length is not 1 .. 10000000", P03PieceTest::lengths);
        CHECK.sentence("or speed not 0 .. 10000", P03PieceTest::speeds);
        CHECK.sentence("ArithmeticException (the machine's own) if speed is 0", P03PieceTest::speedZero);
        CHECK.sentence("UnsupportedOperationException if there are 40", P03PieceTest::forty);
        CHECK.sentence("IllegalArgumentException .. ; ArithmeticException .. ; UnsupportedOperationException (more than one)",
                P03PieceTest::moreThanOne);
        CHECK.finish();
    }

    private static void numbers() {
        WayGraph graph = Graphs.onLevels(0, 0, 1);
        CHECK.due(0, "the first", () -> graph.piece(0, 1, 1000, 100));
        CHECK.due(1, "the same again", () -> graph.piece(0, 1, 1000, 100));
        CHECK.due(2, "one back", () -> graph.piece(1, 0, 1000, 100));
        graph.lift(0, 2, 5);
        CHECK.due(5, "one behind a lift", () -> graph.piece(0, 1, 1000, 100));
        CHECK.due(6, "count(1)", () -> graph.count(1));
    }

    private static void noSuchPlaces() {
        WayGraph graph = Graphs.flat(3);
        CHECK.due(0, "from the last place to the first", () -> graph.piece(2, 0, 5, 5));
        CHECK.due(1, "from the first place to the last", () -> graph.piece(0, 2, 5, 5));
        CHECK.unchanged(graph, () -> {
            for (int bad : new int[] {-1, 3, 19, 20, Integer.MIN_VALUE, Integer.MAX_VALUE}) {
                CHECK.badArgument("from " + bad, () -> graph.piece(bad, 0, 5, 5));
                CHECK.badArgument("to " + bad, () -> graph.piece(0, bad, 5, 5));
            }
            CHECK.badArgument("from -1 to 3", () -> graph.piece(-1, 3, 5, 5));
        });
    }

    private static void samePlaces() {
        WayGraph graph = Graphs.flat(2);
        CHECK.badArgument("from 0 to 0", () -> graph.piece(0, 0, 5, 5));
        CHECK.badArgument("from 1 to 1", () -> graph.piece(1, 1, 5, 5));
        CHECK.due(0, "count(1)", () -> graph.count(1));
    }

    private static void levels() {
        WayGraph graph = Graphs.onLevels(0, 1, 9, 9);
        CHECK.badArgument("from level 0 to 1", () -> graph.piece(0, 1, 5, 5));
        CHECK.badArgument("from level 1 to 0", () -> graph.piece(1, 0, 5, 5));
        CHECK.badArgument("from level 0 to 9", () -> graph.piece(0, 2, 5, 5));
        CHECK.due(0, "count(1)", () -> graph.count(1));
        CHECK.due(0, "on level 9", () -> graph.piece(3, 2, 5, 5));
    }

    private static void lengths() {
        WayGraph graph = Graphs.flat(2);
        CHECK.due(0, "length 1", () -> graph.piece(0, 1, 1, 1));
        CHECK.due(1, "length 10000000", () -> graph.piece(0, 1, 10000000, 1));
        CHECK.due(1, "seconds of length 1", () -> graph.told(0, 2));
        CHECK.due(10000000, "seconds of length 10000000", () -> graph.told(1, 2));
        CHECK.unchanged(graph, () -> {
            for (long bad : new long[] {0, 10000001, -1, 1L << 32, (1L << 32) + 1, Long.MIN_VALUE, Long.MAX_VALUE}) {
                CHECK.badArgument("length " + bad, () -> graph.piece(0, 1, bad, 1));
            }
        });
    }

    private static void speeds() {
        WayGraph graph = Graphs.flat(2);
        CHECK.due(0, "speed 1", () -> graph.piece(0, 1, 20000, 1));
        CHECK.due(1, "speed 10000", () -> graph.piece(0, 1, 20000, 10000));
        CHECK.due(20000, "seconds at speed 1", () -> graph.told(0, 2));
        CHECK.due(2, "seconds at speed 10000", () -> graph.told(1, 2));
        CHECK.unchanged(graph, () -> {
            for (long bad : new long[] {-1, 10001, 1L << 32, (1L << 32) + 1, Long.MIN_VALUE, Long.MAX_VALUE}) {
                CHECK.badArgument("speed " + bad, () -> graph.piece(0, 1, 5, bad));
            }
        });
    }

    private static void speedZero() {
        WayGraph graph = Graphs.flat(2);
        CHECK.unchanged(graph, () -> {
            CHECK.refuses(ArithmeticException.class, "length 1, speed 0", () -> graph.piece(0, 1, 1, 0));
            CHECK.refuses(ArithmeticException.class, "length 10000000, speed 0", () -> graph.piece(0, 1, 10000000, 0));
        });
        CHECK.due(0, "the next piece", () -> graph.piece(0, 1, 5, 5));
    }

    private static void forty() {
        WayGraph graph = Graphs.withPieces(39);
        CHECK.due(39, "piece with 39 there", () -> graph.piece(1, 0, 77, 1));
        CHECK.full("piece with 40 there", () -> graph.piece(0, 1, 5, 5));
        CHECK.full("piece with 40 there, back", () -> graph.piece(1, 0, 5, 5));
        CHECK.due(40, "count(1)", () -> graph.count(1));
        CHECK.due(1, "begin of piece 39", () -> graph.told(39, 0));
        CHECK.due(0, "end of piece 39", () -> graph.told(39, 1));
        CHECK.due(77, "seconds of piece 39", () -> graph.told(39, 2));
        WayGraph lifted = Graphs.withPieces(38);
        lifted.lift(0, 2, 5);
        CHECK.full("piece with 38 and a lift there", () -> lifted.piece(0, 1, 5, 5));
    }

    private static void moreThanOne() {
        WayGraph graph = Graphs.withPieces(39);
        CHECK.badArgument("speed 0, length 0", () -> graph.piece(0, 1, 0, 0));
        CHECK.badArgument("speed 0, length 10000001", () -> graph.piece(0, 1, 10000001, 0));
        CHECK.badArgument("speed 0, one place", () -> graph.piece(0, 0, 5, 0));
        CHECK.badArgument("speed 0, two levels", () -> graph.piece(0, 2, 5, 0));
        CHECK.badArgument("speed 0, no such place", () -> graph.piece(0, 3, 5, 0));
        graph.piece(0, 1, 5, 5);
        CHECK.badArgument("length 0, 40 there", () -> graph.piece(0, 1, 0, 5));
        CHECK.badArgument("speed 10001, 40 there", () -> graph.piece(0, 1, 5, 10001));
        CHECK.badArgument("one place, 40 there", () -> graph.piece(0, 0, 5, 5));
        CHECK.badArgument("two levels, 40 there", () -> graph.piece(0, 2, 5, 5));
        CHECK.badArgument("no such place, 40 there", () -> graph.piece(3, 0, 5, 5));
        CHECK.refuses(ArithmeticException.class, "speed 0, 40 there", () -> graph.piece(0, 1, 5, 0));
    }
}
