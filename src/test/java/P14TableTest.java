/** Promise 14. */
public final class P14TableTest {

    private static final Check CHECK = new Check("Promise 14");

    public static void main(String[] args) {
        CHECK.sentence("from the i-th marked place to the j-th", P14TableTest::inTheOrderOfMarking);
        CHECK.sentence("from the i-th marked place to the j-th (all eight)", P14TableTest::eight);
        CHECK.sentence("from the i-th marked place to the j-th (the same)", P14TableTest::toItself);
        CHECK.sentence("of mover 0", P14TableTest::moverZero);
        CHECK.sentence("from moment 0 on", P14TableTest::momentZero);
        CHECK.sentence("as all is now", P14TableTest::asAllIsNow);
        CHECK.sentence("-1 if there is none", P14TableTest::noWay);
        CHECK.sentence("IllegalArgumentException if there are no such marked places", P14TableTest::noSuchMarks);
        CHECK.sentence("IllegalStateException if there is no mover", P14TableTest::noMover);
        CHECK.sentence("IllegalArgumentException .. ; IllegalStateException (both)", P14TableTest::bothWrong);
        CHECK.finish();
    }

    private static void inTheOrderOfMarking() {
        WayGraph graph = Graphs.row(3, 4);
        graph.mark(2);
        graph.mark(0);
        graph.mark(1);
        CHECK.due(7, "table(1, 0)", () -> graph.table(1, 0));
        CHECK.due(3, "table(1, 2)", () -> graph.table(1, 2));
        CHECK.due(4, "table(2, 0)", () -> graph.table(2, 0));
    }

    private static void eight() {
        WayGraph graph = Graphs.row(1, 2, 4, 8, 16, 32, 64);
        for (int place = 0; place < 8; place++) {
            graph.mark(place);
        }
        for (int from = 0; from < 8; from++) {
            for (int to = 0; to < 8; to++) {
                int i = from;
                int j = to;
                long due = from <= to ? (1L << to) - (1L << from) : -1;
                CHECK.due(due, "table(" + i + ", " + j + ")", () -> graph.table(i, j));
            }
        }
        CHECK.badArgument("table(8, 0)", () -> graph.table(8, 0));
        CHECK.badArgument("table(0, 8)", () -> graph.table(0, 8));
    }

    private static void toItself() {
        WayGraph graph = Graphs.row(3);
        graph.closed(0, true);
        graph.mark(1);
        graph.mark(0);
        CHECK.due(0, "table(0, 0)", () -> graph.table(0, 0));
        CHECK.due(0, "table(1, 1)", () -> graph.table(1, 1));
    }

    private static void moverZero() {
        WayGraph graph = Graphs.flat(2);
        Graphs.piece(graph, 0, 1, 10);
        Graphs.piece(graph, 0, 1, 5);
        graph.limit(1, 4, 4);
        graph.mover(5, 5);
        graph.mover(1, 1);
        graph.mark(0);
        graph.mark(1);
        CHECK.due(10, "where mover 1 would need 5", () -> graph.table(0, 1));
    }

    private static void momentZero() {
        WayGraph graph = Graphs.row(100, 5);
        graph.mark(0);
        graph.mark(2);
        Graphs.onlyOpenIn(graph, 0, 0);
        graph.way(0, 0, 2, 5000);
        CHECK.due(105, "no wait in hour 0", () -> graph.table(0, 1));
        Graphs.onlyOpenIn(graph, 0, 3);
        CHECK.due(3 * Graphs.HOUR + 105, "waits for hour 3", () -> graph.table(0, 1));
        Graphs.onlyOpenIn(graph, 1, 2);
        CHECK.due(Graphs.DAY + 2 * Graphs.HOUR + 5, "waits past midnight", () -> graph.table(0, 1));
    }

    private static void asAllIsNow() {
        WayGraph graph = Graphs.row(10, 10);
        graph.mark(0);
        graph.mark(2);
        CHECK.due(20, "at first", () -> graph.table(0, 1));
        Graphs.piece(graph, 0, 2, 15);
        CHECK.due(15, "with one more piece", () -> graph.table(0, 1));
        graph.closed(2, true);
        CHECK.due(20, "with that closed", () -> graph.table(0, 1));
        graph.turn(0, 1, true);
        CHECK.due(-1, "with the turn barred", () -> graph.table(0, 1));
        graph.closed(2, false);
        CHECK.due(15, "with that open", () -> graph.table(0, 1));
        graph.limit(2, 10000, 10000);
        graph.mover(10000, 10000);
        CHECK.due(15, "with one more mover", () -> graph.table(0, 1));
        graph.turn(0, 1, false);
        Graphs.onlyOpenIn(graph, 2, 1);
        CHECK.due(20, "with its door shut", () -> graph.table(0, 1));
        graph.door(2, 0, true);
        CHECK.due(15, "with its door open", () -> graph.table(0, 1));
    }

    private static void noWay() {
        WayGraph graph = Graphs.row(3);
        graph.place(0);
        graph.mark(0);
        graph.mark(1);
        graph.mark(2);
        CHECK.due(-1, "against the piece", () -> graph.table(1, 0));
        CHECK.due(-1, "to a lone place", () -> graph.table(0, 2));
        CHECK.due(-1, "from a lone place", () -> graph.table(2, 1));
    }

    private static void noSuchMarks() {
        WayGraph graph = Graphs.row(3);
        CHECK.badArgument("table(0, 0) of none", () -> graph.table(0, 0));
        graph.mark(1);
        CHECK.badArgument("table(0, 1) of one", () -> graph.table(0, 1));
        CHECK.badArgument("table(1, 0) of one", () -> graph.table(1, 0));
        graph.mark(0);
        CHECK.due(3, "table(1, 0) of two", () -> graph.table(1, 0));
        CHECK.due(-1, "table(0, 1) of two", () -> graph.table(0, 1));
        for (int bad : new int[] {-1, 2, 7, 8, Integer.MIN_VALUE, Integer.MAX_VALUE}) {
            CHECK.badArgument("from mark " + bad, () -> graph.table(bad, 0));
            CHECK.badArgument("to mark " + bad, () -> graph.table(0, bad));
            CHECK.badArgument("from and to mark " + bad, () -> graph.table(bad, bad));
        }
    }

    private static void noMover() {
        WayGraph graph = Graphs.withPieces(1);
        graph.mark(0);
        graph.mark(1);
        CHECK.badState("table(0, 1)", () -> graph.table(0, 1));
        CHECK.badState("table(1, 0), where there is no way", () -> graph.table(1, 0));
        CHECK.badState("table(0, 0)", () -> graph.table(0, 0));
        CHECK.due(-1, "a mover that fits nowhere", () -> graph.mover(10000, 10000));
        CHECK.badState("table(0, 1) behind it", () -> graph.table(0, 1));
        graph.mover(1, 1);
        CHECK.due(1, "table(0, 1) with a mover", () -> graph.table(0, 1));
    }

    private static void bothWrong() {
        WayGraph graph = Graphs.withPieces(1);
        CHECK.badArgument("no mark, no mover", () -> graph.table(0, 0));
        graph.mark(0);
        CHECK.badArgument("table(0, 1) of one, no mover", () -> graph.table(0, 1));
        CHECK.badArgument("table(-1, 0), no mover", () -> graph.table(-1, 0));
    }
}
