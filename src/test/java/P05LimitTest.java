/** Promise 5. */
public final class P05LimitTest {

    private static final Check CHECK = new Check("Promise 5");

    public static void main(String[] args) {
        CHECK.sentence("width (1 .. 10000)", P05LimitTest::widths);
        CHECK.sentence("height (1 .. 10000)", P05LimitTest::heights);
        CHECK.sentence("A piece's limits", P05LimitTest::ofOnePiece);
        CHECK.sentence("IllegalArgumentException (no such piece)", P05LimitTest::noSuchPiece);
        CHECK.sentence("IllegalArgumentException (width)", P05LimitTest::widthsRefused);
        CHECK.sentence("IllegalArgumentException (height)", P05LimitTest::heightsRefused);
        CHECK.finish();
    }

    private static void told(WayGraph graph, int piece, int width, long height) {
        CHECK.due(width, "width of piece " + piece, () -> graph.told(piece, 5));
        CHECK.due(height, "height of piece " + piece, () -> graph.told(piece, 6));
    }

    private static void refused(WayGraph graph, int piece, int width, long height) {
        CHECK.badArgument("limit(" + piece + ", " + width + ", " + height + ")", () -> {
            graph.limit(piece, width, height);
            return 0;
        });
    }

    private static void widths() {
        WayGraph graph = Graphs.withPieces(1);
        graph.limit(0, 1, 5);
        told(graph, 0, 1, 5);
        graph.limit(0, 10000, 5);
        told(graph, 0, 10000, 5);
    }

    private static void heights() {
        WayGraph graph = Graphs.withPieces(1);
        graph.limit(0, 5, 1);
        told(graph, 0, 5, 1);
        graph.limit(0, 5, 10000);
        told(graph, 0, 5, 10000);
    }

    private static void ofOnePiece() {
        WayGraph graph = Graphs.withPieces(2);
        graph.lift(0, 2, 5);
        graph.limit(1, 7, 8);
        graph.limit(2, 9, 10);
        told(graph, 0, 2000, 3000);
        told(graph, 1, 7, 8);
        told(graph, 2, 9, 10);
        told(graph, 3, 2000, 3000);
        WayGraph forty = Graphs.withPieces(40);
        forty.limit(39, 3, 4);
        told(forty, 39, 3, 4);
        told(forty, 38, 2000, 3000);
    }

    private static void noSuchPiece() {
        WayGraph graph = Graphs.withPieces(2);
        graph.limit(1, 7, 8);
        CHECK.unchanged(graph, () -> {
            for (int bad : new int[] {-1, 2, 39, 40, Integer.MIN_VALUE, Integer.MAX_VALUE}) {
                refused(graph, bad, 5, 5);
            }
        });
        refused(Graphs.withPieces(40), 40, 5, 5);
    }

    private static void widthsRefused() {
        WayGraph graph = Graphs.withPieces(1);
        CHECK.unchanged(graph, () -> {
            for (int bad : new int[] {0, 10001, -1, Integer.MIN_VALUE, Integer.MAX_VALUE}) {
                refused(graph, 0, bad, 5);
            }
        });
    }

    private static void heightsRefused() {
        WayGraph graph = Graphs.withPieces(1);
        CHECK.unchanged(graph, () -> {
            for (long bad : new long[] {0, 10001, -1, 1L << 32, (1L << 32) + 1, Long.MIN_VALUE, Long.MAX_VALUE}) {
                refused(graph, 0, 5, bad);
            }
        });
    }
}
