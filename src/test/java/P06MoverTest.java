/** Promise 6. */
public final class P06MoverTest {

    private static final Check CHECK = new Check("Promise 6");

    public static void main(String[] args) {
        CHECK.sentence("A mover (width and height 1 .. 10000)", P06MoverTest::sizes);
        CHECK.sentence("its number", P06MoverTest::numbers);
        CHECK.sentence("-1, .. if it fits no piece", P06MoverTest::fitsNone);
        CHECK.sentence("-1, and there is none", P06MoverTest::thenThereIsNone);
        CHECK.sentence("as it is now", P06MoverTest::asItIsNow);
        CHECK.sentence("fits (limits alone)", P06MoverTest::limitsAlone);
        CHECK.sentence("IllegalArgumentException (width)", P06MoverTest::widthsRefused);
        CHECK.sentence("IllegalArgumentException (height)", P06MoverTest::heightsRefused);
        CHECK.sentence("UnsupportedOperationException if there are six", P06MoverTest::six);
        CHECK.sentence("-1 .. ; IllegalArgumentException; UnsupportedOperationException (more than one)",
                P06MoverTest::moreThanOne);
        CHECK.finish();
    }

    private static void sizes() {
        WayGraph graph = Graphs.withPieces(1);
        graph.limit(0, 10000, 10000);
        CHECK.due(0, "mover(1, 1)", () -> graph.mover(1, 1));
        CHECK.due(1, "mover(10000, 10000)", () -> graph.mover(10000, 10000));
        CHECK.due(2, "mover(1, 10000)", () -> graph.mover(1, 10000));
        CHECK.due(3, "mover(10000, 1)", () -> graph.mover(10000, 1));
        CHECK.due(1, "the way of mover 1", () -> graph.way(1, 0, 1, 0));
        graph.limit(0, 9999, 10000);
        CHECK.no("the wide one goes on", graph.reaches(1, 0, 1));
        CHECK.yes("the narrow one goes on", graph.reaches(2, 0, 1));
        graph.limit(0, 10000, 9999);
        CHECK.no("the high one goes on", graph.reaches(2, 0, 1));
        CHECK.yes("the low one goes on", graph.reaches(3, 0, 1));
    }

    private static void numbers() {
        WayGraph graph = Graphs.withPieces(1);
        CHECK.due(0, "the first", () -> graph.mover(5, 5));
        CHECK.due(1, "an equal one", () -> graph.mover(5, 5));
        CHECK.due(2, "count(2)", () -> graph.count(2));
    }

    private static void fitsNone() {
        CHECK.due(-1, "without places", () -> new WayGraph().mover(1, 1));
        CHECK.due(-1, "without pieces", () -> Graphs.flat(2).mover(1, 1));
        WayGraph graph = Graphs.withPieces(2);
        CHECK.due(-1, "a bit too wide", () -> graph.mover(2001, 3000));
        CHECK.due(-1, "a bit too high", () -> graph.mover(2000, 3001));
        CHECK.due(-1, "the widest", () -> graph.mover(10000, 1));
        CHECK.due(-1, "the highest", () -> graph.mover(1, 10000));
        graph.limit(0, 1, 10000);
        graph.limit(1, 10000, 1);
        CHECK.due(-1, "too wide for one, too high for the other", () -> graph.mover(2, 2));
        graph.limit(1, 2, 2);
        CHECK.due(0, "just fits the last one", () -> graph.mover(2, 2));
        CHECK.due(1, "just fits the first one", () -> graph.mover(1, 10000));
        WayGraph forty = Graphs.withPieces(40);
        CHECK.due(-1, "too wide for all forty", () -> forty.mover(2001, 1));
        forty.limit(39, 2001, 1);
        CHECK.due(0, "just fits the fortieth", () -> forty.mover(2001, 1));
    }

    private static void thenThereIsNone() {
        WayGraph graph = Graphs.withPieces(1);
        for (int i = 0; i < 7; i++) {
            CHECK.due(-1, "too wide, time " + i, () -> graph.mover(2001, 1));
        }
        CHECK.due(0, "count(2)", () -> graph.count(2));
        CHECK.badArgument("its way", () -> graph.way(0, 0, 1, 0));
        CHECK.badState("a short way of mover 0", () -> graph.k(0, 1, 0));
        CHECK.due(0, "the next that fits", () -> graph.mover(2000, 3000));
    }

    private static void asItIsNow() {
        WayGraph graph = Graphs.withPieces(1);
        graph.limit(0, 5, 5);
        CHECK.due(-1, "too wide now", () -> graph.mover(6, 5));
        graph.limit(0, 6, 5);
        CHECK.due(0, "not too wide now", () -> graph.mover(6, 5));
        graph.limit(0, 5, 5);
        CHECK.due(-1, "too wide again", () -> graph.mover(6, 5));
        CHECK.due(1, "the mover made before is there", () -> graph.count(2));
        CHECK.due(-1, "but comes through no more", () -> graph.way(0, 0, 1, 0));
    }

    private static void limitsAlone() {
        WayGraph graph = Graphs.withPieces(1);
        graph.closed(0, true);
        CHECK.due(0, "fits a closed piece", () -> graph.mover(1, 1));
        Graphs.onlyOpenIn(graph, 0);
        CHECK.due(1, "fits a piece without hours", () -> graph.mover(1, 1));
    }

    private static void widthsRefused() {
        WayGraph graph = Graphs.withPieces(1);
        graph.limit(0, 10000, 10000);
        CHECK.unchanged(graph, () -> {
            for (int bad : new int[] {0, 10001, -1, Integer.MIN_VALUE, Integer.MAX_VALUE}) {
                CHECK.badArgument("width " + bad, () -> graph.mover(bad, 5));
            }
        });
    }

    private static void heightsRefused() {
        WayGraph graph = Graphs.withPieces(1);
        graph.limit(0, 10000, 10000);
        CHECK.unchanged(graph, () -> {
            for (long bad : new long[] {0, 10001, -1, 1L << 32, (1L << 32) + 1, Long.MIN_VALUE, Long.MAX_VALUE}) {
                CHECK.badArgument("height " + bad, () -> graph.mover(5, bad));
            }
        });
    }

    private static void six() {
        WayGraph graph = Graphs.withPieces(1);
        for (int i = 0; i < 6; i++) {
            int number = i;
            CHECK.due(number, "mover with " + i + " there", () -> graph.mover(1 + number, 1));
        }
        CHECK.unchanged(graph, () -> CHECK.full("mover with 6 there", () -> graph.mover(1, 1)));
        CHECK.due(6, "count(2)", () -> graph.count(2));
        graph.limit(0, 5, 1);
        CHECK.yes("mover 4 of width 5 fits", graph.reaches(4, 0, 1));
        CHECK.no("mover 5 of width 6 fits", graph.reaches(5, 0, 1));
    }

    private static void moreThanOne() {
        CHECK.badArgument("width 0, no pieces", () -> new WayGraph().mover(0, 1));
        CHECK.badArgument("height 10001, no pieces", () -> new WayGraph().mover(1, 10001));
        WayGraph graph = Graphs.withPieces(1);
        for (int i = 0; i < 6; i++) {
            graph.mover(1, 1);
        }
        CHECK.badArgument("width 0 with 6 there", () -> graph.mover(0, 1));
        CHECK.badArgument("height 0 with 6 there", () -> graph.mover(1, 0));
        CHECK.full("one that fits none with 6 there", () -> graph.mover(2001, 1));
    }
}
