/** Promise 12. */
public final class P12ReachesTest {

    private static final Check CHECK = new Check("Promise 12");

    public static void main(String[] args) {
        CHECK.sentence("Whether a mover can come from a to b at all", P12ReachesTest::atAll);
        CHECK.sentence("at all (with waits, however long)", P12ReachesTest::withWaits);
        CHECK.sentence("at all (from a place to itself)", P12ReachesTest::toItself);
        CHECK.sentence("a mover", P12ReachesTest::eachMover);
        CHECK.sentence("IllegalArgumentException (no such mover)", P12ReachesTest::noSuchMover);
        CHECK.sentence("IllegalArgumentException (no such places)", P12ReachesTest::noSuchPlaces);
        CHECK.finish();
    }

    private static void atAll() {
        WayGraph graph = Graphs.row(10, 10);
        graph.place(0);
        CHECK.yes("over one piece", graph.reaches(0, 0, 1));
        CHECK.yes("over two pieces", graph.reaches(0, 0, 2));
        CHECK.no("back", graph.reaches(0, 2, 0));
        CHECK.no("to a lone place", graph.reaches(0, 0, 3));
        CHECK.no("from a lone place", graph.reaches(0, 3, 0));
        graph.turn(0, 1, true);
        CHECK.no("over a barred turn", graph.reaches(0, 0, 2));
        CHECK.yes("from behind it", graph.reaches(0, 1, 2));
        graph.turn(0, 1, false);
        graph.closed(0, true);
        CHECK.no("over a closed piece", graph.reaches(0, 0, 2));
    }

    private static void withWaits() {
        WayGraph graph = Graphs.row(10000000, 10000000);
        Graphs.onlyOpenIn(graph, 0, 23);
        Graphs.onlyOpenIn(graph, 1, 0);
        CHECK.yes("one open hour each", graph.reaches(0, 0, 2));
        graph.door(1, 0, false);
        CHECK.no("no open hour", graph.reaches(0, 0, 2));
        graph.door(1, 12, true);
        CHECK.yes("another open hour", graph.reaches(0, 0, 2));
    }

    private static void toItself() {
        WayGraph graph = Graphs.row(5);
        graph.place(9);
        graph.closed(0, true);
        CHECK.yes("place 0", graph.reaches(0, 0, 0));
        CHECK.yes("a lone place", graph.reaches(0, 2, 2));
    }

    private static void eachMover() {
        WayGraph graph = Graphs.withPieces(1);
        for (int i = 1; i <= 6; i++) {
            graph.mover(i, 7 - i);
        }
        graph.limit(0, 3, 5);
        for (int i = 1; i <= 6; i++) {
            CHECK.note(Boolean.toString(i == 2 || i == 3), "mover " + (i - 1),
                    Boolean.toString(graph.reaches(i - 1, 0, 1)));
        }
    }

    private static void noSuchMover() {
        WayGraph none = Graphs.withPieces(1);
        CHECK.badArgument("mover 0 of none", () -> none.reaches(0, 0, 1) ? 1 : 0);
        WayGraph graph = Graphs.row(5);
        for (int bad : new int[] {-1, 1, 5, 6, Integer.MIN_VALUE, Integer.MAX_VALUE}) {
            CHECK.badArgument("mover " + bad, () -> graph.reaches(bad, 0, 1) ? 1 : 0);
            CHECK.badArgument("mover " + bad + " to itself", () -> graph.reaches(bad, 0, 0) ? 1 : 0);
        }
    }

    private static void noSuchPlaces() {
        WayGraph graph = Graphs.row(5);
        for (int bad : new int[] {-1, 2, 19, 20, Integer.MIN_VALUE, Integer.MAX_VALUE}) {
            CHECK.badArgument("from " + bad, () -> graph.reaches(0, bad, 1) ? 1 : 0);
            CHECK.badArgument("to " + bad, () -> graph.reaches(0, 0, bad) ? 1 : 0);
            CHECK.badArgument("from and to " + bad, () -> graph.reaches(0, bad, bad) ? 1 : 0);
        }
    }
}
