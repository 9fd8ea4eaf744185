/** Promise 10; what a least way is, TermsTest tests. */
public final class P10WayTest {

    private static final Check CHECK = new Check("Promise 10");

    public static void main(String[] args) {
        CHECK.sentence("The seconds of the least way", P10WayTest::seconds);
        CHECK.sentence("The seconds of the least way (of all pieces there can be)", P10WayTest::theLongestWay);
        CHECK.sentence("of a mover", P10WayTest::eachMover);
        CHECK.sentence("from moment t (0 .. 10000000) on", P10WayTest::momentsTaken);
        CHECK.sentence("-1 if there is none", P10WayTest::noWay);
        CHECK.sentence("IllegalArgumentException (moment)", P10WayTest::momentsRefused);
        CHECK.sentence("IllegalArgumentException (no such mover)", P10WayTest::noSuchMover);
        CHECK.sentence("IllegalArgumentException (no such places)", P10WayTest::noSuchPlaces);
        CHECK.finish();
    }

    private static void seconds() {
        WayGraph graph = Graphs.flat(4);
        Graphs.piece(graph, 0, 2, 30);
        Graphs.piece(graph, 1, 2, 11);
        Graphs.piece(graph, 0, 1, 10);
        graph.mover(1, 1);
        CHECK.due(21, "two pieces beat one", () -> graph.way(0, 0, 2, 0));
        CHECK.steps(graph, "their steps", 2, 1);
        CHECK.due(21, "later", () -> graph.way(0, 0, 2, 5000));
        CHECK.due(10, "a part of it", () -> graph.way(0, 0, 1, 0));
    }

    /** All forty pieces in their order: every other turn is barred. */
    private static void theLongestWay() {
        int[] along = new int[41];
        for (int i = 1; i <= 36; i++) {
            along[i] = 1 + (i - 1) % 18;
        }
        along[37] = 1;
        along[38] = 2;
        along[39] = 1;
        along[40] = 19;
        WayGraph graph = Graphs.flat(20);
        int[] all = new int[40];
        for (int i = 0; i < 40; i++) {
            all[i] = Graphs.piece(graph, along[i], along[i + 1], 10000000);
        }
        for (int from = 0; from < 40; from++) {
            for (int to = 0; to < 40; to++) {
                if (along[from + 1] == along[to] && to != from + 1) {
                    graph.turn(from, to, true);
                }
            }
        }
        graph.mover(1, 1);
        CHECK.due(400000000, "forty times 10000000", () -> graph.way(0, 0, 19, 10000000));
        CHECK.steps(graph, "its forty steps", all);
        CHECK.yes("reaches so far", graph.reaches(0, 0, 19));
    }

    private static void eachMover() {
        WayGraph graph = Graphs.flat(2);
        for (int i = 0; i < 6; i++) {
            Graphs.piece(graph, 0, 1, 60 - 10 * i);
            graph.limit(i, 60 - 10 * i, 5);
        }
        for (int i = 0; i < 6; i++) {
            graph.mover(10 + 10 * i, 5);
        }
        for (int i = 0; i < 6; i++) {
            int mover = i;
            CHECK.due(10 + 10 * mover, "way of mover " + i, () -> graph.way(mover, 0, 1, 0));
        }
    }

    private static void momentsTaken() {
        WayGraph graph = Graphs.row(5);
        CHECK.due(5, "t 0", () -> graph.way(0, 0, 1, 0));
        CHECK.due(5, "t 10000000", () -> graph.way(0, 0, 1, 10000000));
        CHECK.due(0, "t 10000000 to itself", () -> graph.way(0, 0, 0, 10000000));
        WayGraph late = Graphs.row(10000000, 5);
        Graphs.onlyOpenIn(late, 1, 0);
        // At its end of piece 0 it is 20000000: hour 11 of day 231, with 2 000 seconds of it gone.
        CHECK.due(10000000 + 13 * 3600 - 2000 + 5, "moments behind the last t", () -> late.way(0, 0, 2, 10000000));
    }

    private static void noWay() {
        WayGraph graph = Graphs.row(5);
        graph.place(0);
        CHECK.due(-1, "against the piece", () -> graph.way(0, 1, 0, 0));
        CHECK.due(-1, "to a lone place", () -> graph.way(0, 0, 2, 0));
        CHECK.due(-1, "from a lone place", () -> graph.way(0, 2, 0, 10000000));
        CHECK.due(0, "a lone place itself", () -> graph.way(0, 2, 2, 0));
        graph.closed(0, true);
        CHECK.due(-1, "the only piece closed", () -> graph.way(0, 0, 1, 0));
        CHECK.due(0, "to itself all the same", () -> graph.way(0, 0, 0, 0));
    }

    private static void momentsRefused() {
        WayGraph graph = Graphs.row(5);
        graph.way(0, 0, 1, 0);
        CHECK.unchanged(graph, () -> {
            for (long bad : new long[] {-1, 10000001, 1L << 32, Long.MIN_VALUE, Long.MAX_VALUE}) {
                CHECK.badArgument("t " + bad, () -> graph.way(0, 0, 1, bad));
                CHECK.badArgument("t " + bad + " to itself", () -> graph.way(0, 0, 0, bad));
                CHECK.badArgument("t " + bad + " where there is no way", () -> graph.way(0, 1, 0, bad));
            }
        });
    }

    private static void noSuchMover() {
        WayGraph none = Graphs.withPieces(1);
        CHECK.badArgument("mover 0 of none", () -> none.way(0, 0, 1, 0));
        WayGraph graph = Graphs.row(5);
        graph.mover(1, 1);
        CHECK.due(5, "mover 1 of two", () -> graph.way(1, 0, 1, 0));
        CHECK.unchanged(graph, () -> {
            for (int bad : new int[] {-1, 2, 5, 6, Integer.MIN_VALUE, Integer.MAX_VALUE}) {
                CHECK.badArgument("mover " + bad, () -> graph.way(bad, 0, 1, 0));
                CHECK.badArgument("mover " + bad + " to itself", () -> graph.way(bad, 0, 0, 0));
            }
        });
    }

    private static void noSuchPlaces() {
        WayGraph graph = Graphs.row(5);
        graph.way(0, 0, 1, 0);
        CHECK.unchanged(graph, () -> {
            for (int bad : new int[] {-1, 2, 19, 20, Integer.MIN_VALUE, Integer.MAX_VALUE}) {
                CHECK.badArgument("from " + bad, () -> graph.way(0, bad, 1, 0));
                CHECK.badArgument("to " + bad, () -> graph.way(0, 0, bad, 0));
                CHECK.badArgument("from and to " + bad, () -> graph.way(0, bad, bad, 0));
            }
        });
    }
}
