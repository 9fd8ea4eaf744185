/** Promise 2. */
public final class P02PlaceTest {

    private static final Check CHECK = new Check("Promise 2");

    public static void main(String[] args) {
        CHECK.sentence("A place on a level (0 .. 9)", P02PlaceTest::levelsTaken);
        CHECK.sentence("its number", P02PlaceTest::numbers);
        CHECK.sentence("IllegalArgumentException", P02PlaceTest::levelsRefused);
        CHECK.sentence("UnsupportedOperationException if there are 20", P02PlaceTest::twenty);
        CHECK.sentence("IllegalArgumentException; UnsupportedOperationException (both)", P02PlaceTest::bothWrong);
        CHECK.finish();
    }

    private static void levelsTaken() {
        WayGraph graph = new WayGraph();
        for (int i = 0; i <= 9; i++) {
            int level = i;
            CHECK.due(level, "place(" + level + ")", () -> graph.place(level));
        }
        for (int i = 0; i < 9; i++) {
            int lower = i;
            CHECK.badArgument("a piece between levels " + i + " and 9", () -> graph.piece(lower, 9, 5, 5));
        }
        CHECK.due(10, "a second place on level 9", () -> graph.place(9));
        CHECK.due(0, "a piece on level 9", () -> graph.piece(9, 10, 5, 5));
    }

    private static void numbers() {
        WayGraph graph = new WayGraph();
        CHECK.due(0, "the first", () -> graph.place(3));
        CHECK.due(1, "the second", () -> graph.place(3));
        CHECK.due(2, "the third", () -> graph.place(0));
        CHECK.due(3, "count(0)", () -> graph.count(0));
    }

    private static void levelsRefused() {
        WayGraph graph = new WayGraph();
        graph.place(0);
        CHECK.unchanged(graph, () -> {
            CHECK.badArgument("place(-1)", () -> graph.place(-1));
            CHECK.badArgument("place(10)", () -> graph.place(10));
            CHECK.badArgument("place(least int)", () -> graph.place(Integer.MIN_VALUE));
            CHECK.badArgument("place(greatest int)", () -> graph.place(Integer.MAX_VALUE));
        });
        CHECK.due(1, "the next place", () -> graph.place(9));
    }

    private static void twenty() {
        WayGraph graph = Graphs.flat(19);
        CHECK.due(19, "place with 19 there", () -> graph.place(1));
        CHECK.unchanged(graph, () -> {
            CHECK.full("place(0) with 20 there", () -> graph.place(0));
            CHECK.full("place(9) with 20 there", () -> graph.place(9));
        });
        CHECK.due(20, "count(0)", () -> graph.count(0));
        CHECK.due(0, "a lift to place 19", () -> graph.lift(0, 19, 5));
    }

    private static void bothWrong() {
        WayGraph graph = Graphs.flat(20);
        CHECK.badArgument("place(-1) with 20 there", () -> graph.place(-1));
        CHECK.badArgument("place(10) with 20 there", () -> graph.place(10));
    }
}
