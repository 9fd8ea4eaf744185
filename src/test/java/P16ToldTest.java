/** Promise 16. */
public final class P16ToldTest {

    private static final Check CHECK = new Check("Promise 16");

    public static void main(String[] args) {
        CHECK.sentence("0 where it begins, 1 where it ends", P16ToldTest::places);
        CHECK.sentence("2 its seconds", P16ToldTest::seconds);
        CHECK.sentence("3 whether it is closed", P16ToldTest::closed);
        CHECK.sentence("4 its open hours as bits", P16ToldTest::hours);
        CHECK.sentence("5 the limit of width, 6 of height", P16ToldTest::limits);
        CHECK.sentence("IllegalArgumentException (no such piece)", P16ToldTest::noSuchPiece);
        CHECK.sentence("IllegalArgumentException (what)", P16ToldTest::noSuchWhat);
        CHECK.finish();
    }

    private static void places() {
        WayGraph graph = Graphs.flat(20);
        graph.piece(19, 0, 5, 5);
        graph.piece(7, 19, 5, 5);
        CHECK.due(19, "told(0, 0)", () -> graph.told(0, 0));
        CHECK.due(0, "told(0, 1)", () -> graph.told(0, 1));
        CHECK.due(7, "told(1, 0)", () -> graph.told(1, 0));
        CHECK.due(19, "told(1, 1)", () -> graph.told(1, 1));
    }

    private static void seconds() {
        WayGraph graph = Graphs.onLevels(0, 0, 1);
        graph.piece(0, 1, 12, 5);
        graph.piece(0, 1, 10000000, 1);
        graph.lift(0, 2, 10000);
        CHECK.due(3, "12 / 5", () -> graph.told(0, 2));
        CHECK.due(10000000, "the most", () -> graph.told(1, 2));
        CHECK.due(10000, "of a lift", () -> graph.told(2, 2));
    }

    private static void closed() {
        WayGraph graph = Graphs.withPieces(40);
        graph.closed(39, true);
        graph.closed(0, true);
        CHECK.due(1, "told(0, 3)", () -> graph.told(0, 3));
        CHECK.due(0, "told(7, 3)", () -> graph.told(7, 3));
        CHECK.due(1, "told(39, 3)", () -> graph.told(39, 3));
        graph.closed(39, false);
        CHECK.due(0, "told(39, 3), open again", () -> graph.told(39, 3));
    }

    private static void hours() {
        WayGraph graph = Graphs.withPieces(1);
        CHECK.due(16777215, "all", () -> graph.told(0, 4));
        Graphs.onlyOpenIn(graph, 0);
        CHECK.due(0, "none", () -> graph.told(0, 4));
        graph.door(0, 0, true);
        CHECK.due(1, "hour 0", () -> graph.told(0, 4));
        graph.door(0, 23, true);
        CHECK.due(8388609, "hours 0 and 23", () -> graph.told(0, 4));
        graph.door(0, 10, true);
        CHECK.due(8389633, "hours 0, 10 and 23", () -> graph.told(0, 4));
    }

    private static void limits() {
        WayGraph graph = Graphs.withPieces(2);
        graph.limit(1, 10000, 1);
        CHECK.due(2000, "told(0, 5)", () -> graph.told(0, 5));
        CHECK.due(3000, "told(0, 6)", () -> graph.told(0, 6));
        CHECK.due(10000, "told(1, 5)", () -> graph.told(1, 5));
        CHECK.due(1, "told(1, 6)", () -> graph.told(1, 6));
    }

    private static void noSuchPiece() {
        WayGraph graph = Graphs.withPieces(2);
        CHECK.due(0, "told(1, 0), the last piece", () -> graph.told(1, 0));
        for (int bad : new int[] {-1, 2, 39, 40, Integer.MIN_VALUE, Integer.MAX_VALUE}) {
            for (int i = -1; i <= 7; i++) {
                int what = i;
                CHECK.badArgument("told(" + bad + ", " + what + ")", () -> graph.told(bad, what));
            }
        }
        WayGraph forty = Graphs.withPieces(40);
        CHECK.due(0, "told(39, 0) of forty", () -> forty.told(39, 0));
        CHECK.badArgument("told(40, 0) of forty", () -> forty.told(40, 0));
    }

    private static void noSuchWhat() {
        WayGraph graph = Graphs.withPieces(1);
        for (int bad : new int[] {-1, 7, 8, Integer.MIN_VALUE, Integer.MAX_VALUE}) {
            CHECK.badArgument("told(0, " + bad + ")", () -> graph.told(0, bad));
        }
        CHECK.due(0, "told(0, 0)", () -> graph.told(0, 0));
        CHECK.due(3000, "told(0, 6)", () -> graph.told(0, 6));
    }
}
