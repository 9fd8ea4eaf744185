/** Promise 8. */
public final class P08TurnTest {

    private static final Check CHECK = new Check("Promise 8");

    public static void main(String[] args) {
        CHECK.sentence("The turn from a piece to another one is barred, or not", P08TurnTest::barredOrNot);
        CHECK.sentence("how many of it and the turn back are barred then (0, 1, 2)", P08TurnTest::itAndTheTurnBack);
        CHECK.sentence("how many of it and the turn back (where there is none back)", P08TurnTest::noTurnBack);
        CHECK.sentence("IllegalArgumentException if there are no such pieces", P08TurnTest::noSuchPieces);
        CHECK.sentence("or the second one does not begin where the first one ends", P08TurnTest::notNext);
        CHECK.finish();
    }

    private static void barredOrNot() {
        WayGraph graph = Graphs.row(1, 1);
        CHECK.yes("at first", graph.reaches(0, 0, 2));
        graph.turn(0, 1, true);
        CHECK.no("barred", graph.reaches(0, 0, 2));
        graph.turn(0, 1, false);
        CHECK.yes("barred no more", graph.reaches(0, 0, 2));
        WayGraph forty = Graphs.withPieces(39);
        forty.piece(1, 0, 5, 5);
        CHECK.due(1, "from piece 38 to 39", () -> forty.turn(38, 39, true));
        CHECK.due(2, "from piece 39 to 38", () -> forty.turn(39, 38, true));
        CHECK.due(1, "from piece 39 to 6", () -> forty.turn(39, 6, true));
        CHECK.due(3, "count(4)", () -> forty.count(4));
    }

    private static void itAndTheTurnBack() {
        WayGraph graph = Graphs.flat(2);
        Graphs.piece(graph, 0, 1, 1);
        Graphs.piece(graph, 1, 0, 1);
        Graphs.piece(graph, 1, 0, 1);
        CHECK.due(0, "turn(0, 1, false)", () -> graph.turn(0, 1, false));
        CHECK.due(1, "turn(0, 1, true)", () -> graph.turn(0, 1, true));
        CHECK.due(1, "turn(0, 1, true) again", () -> graph.turn(0, 1, true));
        CHECK.due(1, "turn(1, 0, false)", () -> graph.turn(1, 0, false));
        CHECK.due(2, "turn(1, 0, true)", () -> graph.turn(1, 0, true));
        CHECK.due(2, "turn(0, 1, true) with both", () -> graph.turn(0, 1, true));
        CHECK.due(1, "turn(0, 2, true), another turn", () -> graph.turn(0, 2, true));
        CHECK.due(1, "turn(0, 1, false)", () -> graph.turn(0, 1, false));
        CHECK.due(1, "turn(0, 1, false) again", () -> graph.turn(0, 1, false));
        CHECK.due(0, "turn(1, 0, false) with none", () -> graph.turn(1, 0, false));
        CHECK.due(1, "count(4), the other turn", () -> graph.count(4));
    }

    private static void noTurnBack() {
        WayGraph graph = Graphs.row(1, 1, 1);
        CHECK.due(1, "turn(1, 2, true)", () -> graph.turn(1, 2, true));
        CHECK.due(1, "turn(0, 1, true)", () -> graph.turn(0, 1, true));
        CHECK.due(0, "turn(1, 2, false)", () -> graph.turn(1, 2, false));
    }

    private static void noSuchPieces() {
        WayGraph graph = Graphs.flat(2);
        Graphs.piece(graph, 0, 1, 1);
        Graphs.piece(graph, 1, 0, 1);
        graph.turn(1, 0, true);
        CHECK.unchanged(graph, () -> {
            for (int bad : new int[] {-1, 2, 39, 40, Integer.MIN_VALUE, Integer.MAX_VALUE}) {
                CHECK.badArgument("from " + bad, () -> graph.turn(bad, 0, true));
                CHECK.badArgument("to " + bad, () -> graph.turn(0, bad, true));
                CHECK.badArgument("from and to " + bad, () -> graph.turn(bad, bad, false));
            }
        });
    }

    private static void notNext() {
        WayGraph graph = Graphs.row(1, 1, 1);
        CHECK.unchanged(graph, () -> {
            CHECK.badArgument("the other way round", () -> graph.turn(1, 0, true));
            CHECK.badArgument("over one between", () -> graph.turn(0, 2, true));
            CHECK.badArgument("to itself", () -> graph.turn(1, 1, true));
            CHECK.badArgument("not barred, over one between", () -> graph.turn(0, 2, false));
        });
        CHECK.due(1, "the next one", () -> graph.turn(0, 1, true));
    }
}
