/** Promise 7. */
public final class P07ClosedTest {

    private static final Check CHECK = new Check("Promise 7");

    public static void main(String[] args) {
        CHECK.sentence("A piece is closed, or open", P07ClosedTest::closedOrOpen);
        CHECK.sentence("how many are closed then", P07ClosedTest::howMany);
        CHECK.sentence("how many are closed then (none, all)", P07ClosedTest::noneAndAll);
        CHECK.sentence("IllegalArgumentException", P07ClosedTest::refused);
        CHECK.finish();
    }

    private static void closedOrOpen() {
        WayGraph graph = Graphs.withPieces(1);
        graph.lift(0, 2, 5);
        graph.mover(1, 1);
        graph.closed(1, true);
        CHECK.due(0, "piece 0 is closed", () -> graph.told(0, 3));
        CHECK.due(1, "the lift there is closed", () -> graph.told(1, 3));
        CHECK.due(0, "the lift back is closed", () -> graph.told(2, 3));
        CHECK.no("up", graph.reaches(0, 0, 2));
        CHECK.yes("down", graph.reaches(0, 2, 0));
        graph.closed(1, false);
        CHECK.due(0, "the lift there is closed now", () -> graph.told(1, 3));
        CHECK.yes("up again", graph.reaches(0, 0, 2));
    }

    private static void howMany() {
        WayGraph graph = Graphs.withPieces(3);
        CHECK.due(1, "one closed", () -> graph.closed(1, true));
        CHECK.due(1, "the same closed again", () -> graph.closed(1, true));
        CHECK.due(2, "another closed", () -> graph.closed(0, true));
        CHECK.due(2, "one that is open opened", () -> graph.closed(2, false));
        CHECK.due(1, "one opened", () -> graph.closed(1, false));
        CHECK.due(1, "the same opened again", () -> graph.closed(1, false));
        CHECK.due(0, "the last opened", () -> graph.closed(0, false));
    }

    private static void noneAndAll() {
        WayGraph graph = Graphs.withPieces(40);
        CHECK.due(0, "none", () -> graph.closed(39, false));
        for (int i = 0; i < 40; i++) {
            int piece = i;
            CHECK.due(piece + 1, "closed(" + i + ", true)", () -> graph.closed(piece, true));
        }
        CHECK.due(39, "all but the first", () -> graph.closed(0, false));
        CHECK.due(38, "all but the first and the last", () -> graph.closed(39, false));
        CHECK.due(0, "piece 39 is closed", () -> graph.told(39, 3));
        CHECK.due(1, "piece 38 is closed", () -> graph.told(38, 3));
    }

    private static void refused() {
        WayGraph graph = Graphs.withPieces(2);
        graph.closed(1, true);
        CHECK.unchanged(graph, () -> {
            for (int bad : new int[] {-1, 2, 32, 39, 40, 64, Integer.MIN_VALUE, Integer.MAX_VALUE}) {
                CHECK.badArgument("closed(" + bad + ", true)", () -> graph.closed(bad, true));
                CHECK.badArgument("closed(" + bad + ", false)", () -> graph.closed(bad, false));
            }
        });
        CHECK.due(2, "how many are closed behind it", () -> graph.closed(0, true));
    }
}
