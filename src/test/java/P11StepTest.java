/** Promise 11. */
public final class P11StepTest {

    private static final Check CHECK = new Check("Promise 11");

    public static void main(String[] args) {
        CHECK.sentence("Piece i of the way", P11StepTest::pieceByPiece);
        CHECK.sentence("-1 if it has not so many", P11StepTest::notSoMany);
        CHECK.sentence("-1 if it has not so many (nothing told yet)", P11StepTest::nothingTold);
        CHECK.sentence("that way() or k() told last", P11StepTest::toldLast);
        CHECK.sentence("told last (a refused call tells none)", P11StepTest::refusedTellNone);
        CHECK.sentence("told last (by way() or k(), not by another)", P11StepTest::othersTellNone);
        CHECK.sentence("(as it was told", P11StepTest::asItWasTold);
        CHECK.sentence("none behind -1)", P11StepTest::noneBehindMinusOne);
        CHECK.finish();
    }

    private static void pieceByPiece() {
        WayGraph graph = Graphs.flat(4);
        Graphs.piece(graph, 2, 3, 1);
        Graphs.piece(graph, 1, 2, 1);
        Graphs.piece(graph, 0, 1, 1);
        graph.mover(1, 1);
        graph.way(0, 0, 3, 0);
        CHECK.due(2, "step(0)", () -> graph.step(0));
        CHECK.due(1, "step(1)", () -> graph.step(1));
        CHECK.due(0, "step(2)", () -> graph.step(2));
        CHECK.due(2, "step(0) again", () -> graph.step(0));
    }

    private static void notSoMany() {
        WayGraph graph = Graphs.row(1, 1);
        graph.way(0, 0, 2, 0);
        CHECK.due(1, "the last one, step(1)", () -> graph.step(1));
        for (int bad : new int[] {-1, 2, 5, 39, 40, 41, Integer.MIN_VALUE, Integer.MAX_VALUE}) {
            CHECK.due(-1, "step(" + bad + ")", () -> graph.step(bad));
        }
        graph.way(0, 0, 1, 0);
        CHECK.due(-1, "step(1) of a shorter way told behind it", () -> graph.step(1));
        graph.k(0, 2, 0);
        CHECK.due(1, "step(1) of k", () -> graph.step(1));
        CHECK.due(-1, "step(2) of k", () -> graph.step(2));
        CHECK.due(-1, "step(-1) of k", () -> graph.step(-1));
        graph.way(0, 1, 1, 0);
        CHECK.due(-1, "step(0) of a way to itself", () -> graph.step(0));
    }

    private static void nothingTold() {
        WayGraph graph = Graphs.row(1, 1);
        for (int i : new int[] {-1, 0, 1, 40}) {
            CHECK.due(-1, "step(" + i + ")", () -> graph.step(i));
        }
    }

    private static void toldLast() {
        WayGraph graph = Graphs.row(1, 1);
        Graphs.piece(graph, 0, 2, 5);
        graph.way(0, 0, 2, 0);
        CHECK.steps(graph, "of way", 0, 1);
        graph.k(0, 2, 1);
        CHECK.steps(graph, "of k", 2);
        graph.way(0, 1, 2, 0);
        CHECK.steps(graph, "of way again", 1);
        graph.k(0, 1, 0);
        CHECK.steps(graph, "of k again", 0);
    }

    private static void refusedTellNone() {
        WayGraph graph = Graphs.row(1, 1);
        CHECK.badArgument("way before any", () -> graph.way(0, 0, 3, 0));
        CHECK.steps(graph, "none yet");
        graph.way(0, 0, 2, 0);
        CHECK.badArgument("way to no place", () -> graph.way(0, 0, 3, 0));
        CHECK.badArgument("way at no moment", () -> graph.way(0, 0, 1, -1));
        CHECK.badArgument("k of no rank", () -> graph.k(0, 1, 5));
        CHECK.badArgument("k to itself", () -> graph.k(0, 0, 0));
        CHECK.steps(graph, "of the way before them", 0, 1);
    }

    private static void othersTellNone() {
        WayGraph graph = Graphs.row(1, 1);
        graph.mark(1);
        graph.mark(2);
        graph.way(0, 0, 1, 0);
        CHECK.due(1, "table", () -> graph.table(0, 1));
        CHECK.due(-1, "table without a way", () -> graph.table(1, 0));
        CHECK.due(0, "table of one place", () -> graph.table(0, 0));
        CHECK.steps(graph, "behind table", 0);
        CHECK.yes("reaches", graph.reaches(0, 1, 2));
        CHECK.no("reaches back", graph.reaches(0, 2, 0));
        CHECK.steps(graph, "behind reaches", 0);
    }

    private static void asItWasTold() {
        WayGraph graph = Graphs.row(1, 1);
        graph.way(0, 0, 2, 0);
        graph.closed(0, true);
        graph.turn(0, 1, true);
        graph.limit(1, 1, 1);
        Graphs.onlyOpenIn(graph, 1);
        Graphs.piece(graph, 0, 2, 1);
        graph.mover(5, 5);
        graph.place(0);
        CHECK.steps(graph, "of way, behind changes", 0, 1);
        graph.k(0, 2, 0);
        graph.closed(2, true);
        CHECK.steps(graph, "of k, behind a change", 2);
    }

    private static void noneBehindMinusOne() {
        WayGraph graph = Graphs.row(1, 1);
        graph.way(0, 0, 2, 0);
        CHECK.due(-1, "way without a way", () -> graph.way(0, 2, 0, 0));
        CHECK.due(-1, "step(0) behind it", () -> graph.step(0));
        CHECK.due(-1, "step(1) behind it", () -> graph.step(1));
        graph.way(0, 0, 2, 0);
        CHECK.due(-1, "k without so many", () -> graph.k(0, 2, 1));
        CHECK.due(-1, "step(0) behind that", () -> graph.step(0));
        CHECK.due(-1, "step(1) behind that", () -> graph.step(1));
        graph.k(0, 2, 0);
        CHECK.due(-1, "k without any", () -> graph.k(2, 0, 0));
        CHECK.steps(graph, "behind k without any");
    }
}
