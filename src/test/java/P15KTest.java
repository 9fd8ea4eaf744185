/** Promise 15. */
public final class P15KTest {

    private static final Check CHECK = new Check("Promise 15");

    public static void main(String[] args) {
        CHECK.sentence("the seconds of the n-th best one (0 .. 4: 0 the best), by seconds", P15KTest::bySeconds);
        CHECK.sentence("-1 if there are not so many", P15KTest::notSoMany);
        CHECK.sentence("with 1 to 5 pieces", P15KTest::oneToFivePieces);
        CHECK.sentence("that come to no place twice", P15KTest::noPlaceTwice);
        CHECK.sentence("(nor to a again)", P15KTest::notToTheFirstAgain);
        CHECK.sentence("then by their pieces' numbers, compared from the first on", P15KTest::byNumbers);
        CHECK.sentence("then by their pieces' numbers (beyond the fifth)", P15KTest::bestFiveOfMore);
        CHECK.sentence("of mover 0", P15KTest::moverZero);
        CHECK.sentence("ways (that are open, fit, and have no turn barred)", P15KTest::waysAsTheyAre);
        CHECK.sentence("from moment 0 on", P15KTest::momentZero);
        CHECK.sentence("IllegalArgumentException if there are no such places", P15KTest::noSuchPlaces);
        CHECK.sentence("they are the same", P15KTest::samePlaces);
        CHECK.sentence("or n is out of range", P15KTest::ranksRefused);
        CHECK.sentence("IllegalStateException if there is no mover", P15KTest::noMover);
        CHECK.sentence("IllegalArgumentException .. ; IllegalStateException (both)", P15KTest::bothWrong);
        CHECK.finish();
    }

    private static void rank(WayGraph graph, int n, long seconds, int... pieces) {
        CHECK.due(seconds, "k(0, 1, " + n + ")", () -> graph.k(0, 1, n));
        CHECK.steps(graph, "steps of k(0, 1, " + n + ")", pieces);
    }

    private static void bySeconds() {
        WayGraph graph = Graphs.flat(3);
        Graphs.piece(graph, 0, 1, 30);
        Graphs.piece(graph, 0, 2, 10);
        Graphs.piece(graph, 2, 1, 11);
        Graphs.piece(graph, 2, 1, 40);
        Graphs.piece(graph, 0, 1, 60);
        Graphs.piece(graph, 0, 1, 22);
        graph.mover(1, 1);
        rank(graph, 0, 21, 1, 2);
        rank(graph, 1, 22, 5);
        rank(graph, 2, 30, 0);
        rank(graph, 3, 50, 1, 3);
        rank(graph, 4, 60, 4);
    }

    private static void notSoMany() {
        WayGraph graph = Graphs.flat(2);
        Graphs.piece(graph, 1, 0, 1);
        graph.mover(1, 1);
        for (int ways = 0; ways < 6; ways++) {
            for (int n = 0; n < 5; n++) {
                int rank = n;
                CHECK.due(n < ways ? 10 + n : -1, "rank " + n + " of " + ways, () -> graph.k(0, 1, rank));
            }
            Graphs.piece(graph, 0, 1, 10 + ways);
        }
    }

    private static void oneToFivePieces() {
        WayGraph graph = Graphs.flat(7);
        Graphs.piece(graph, 0, 2, 1);
        Graphs.piece(graph, 2, 3, 1);
        Graphs.piece(graph, 3, 4, 1);
        Graphs.piece(graph, 4, 5, 1);
        Graphs.piece(graph, 5, 1, 1);
        graph.mover(1, 1);
        rank(graph, 0, 5, 0, 1, 2, 3, 4);
        rank(graph, 1, -1);
        Graphs.piece(graph, 0, 1, 9);
        rank(graph, 0, 5, 0, 1, 2, 3, 4);
        rank(graph, 1, 9, 5);
        graph.closed(4, true);
        graph.closed(5, true);
        Graphs.piece(graph, 5, 6, 1);
        Graphs.piece(graph, 6, 1, 1);
        rank(graph, 0, -1);
        CHECK.due(6, "way() may have six", () -> graph.way(0, 0, 1, 0));
        CHECK.due(5, "from one place on there are five", () -> graph.k(2, 1, 0));
    }

    private static void noPlaceTwice() {
        WayGraph graph = Graphs.flat(4);
        Graphs.piece(graph, 0, 2, 1);
        Graphs.piece(graph, 2, 3, 1);
        Graphs.piece(graph, 3, 2, 1);
        Graphs.piece(graph, 2, 1, 1);
        Graphs.piece(graph, 1, 3, 1);
        Graphs.piece(graph, 3, 1, 5);
        graph.mover(1, 1);
        rank(graph, 0, 2, 0, 3);
        rank(graph, 1, 7, 0, 1, 5);
        rank(graph, 2, -1);
        graph.turn(0, 3, true);
        rank(graph, 0, 7, 0, 1, 5);
        rank(graph, 1, -1);
        CHECK.due(4, "way() may", () -> graph.way(0, 0, 1, 0));
    }

    private static void notToTheFirstAgain() {
        WayGraph graph = Graphs.flat(3);
        Graphs.piece(graph, 0, 2, 1);
        Graphs.piece(graph, 2, 0, 1);
        Graphs.piece(graph, 0, 1, 1);
        graph.mover(1, 1);
        rank(graph, 0, 1, 2);
        rank(graph, 1, -1);
        CHECK.due(2, "from place 2 it comes to place 0 once", () -> graph.k(2, 1, 0));
        CHECK.steps(graph, "its steps", 1, 2);
        CHECK.due(-1, "and there is no other", () -> graph.k(2, 1, 1));
        CHECK.due(1, "it may end at place 0", () -> graph.k(2, 0, 0));
        CHECK.due(-1, "but not twice", () -> graph.k(2, 0, 1));
    }

    private static void byNumbers() {
        WayGraph graph = Graphs.flat(3);
        Graphs.piece(graph, 2, 1, 5);
        Graphs.piece(graph, 0, 1, 10);
        Graphs.piece(graph, 0, 2, 5);
        Graphs.piece(graph, 0, 1, 10);
        Graphs.piece(graph, 2, 1, 5);
        Graphs.piece(graph, 0, 1, 9);
        graph.mover(1, 1);
        rank(graph, 0, 9, 5);
        rank(graph, 1, 10, 1);
        rank(graph, 2, 10, 2, 0);
        rank(graph, 3, 10, 2, 4);
        rank(graph, 4, 10, 3);
    }

    private static void bestFiveOfMore() {
        WayGraph graph = Graphs.flat(2);
        for (int i = 0; i < 8; i++) {
            Graphs.piece(graph, 0, 1, 10);
        }
        graph.mover(1, 1);
        for (int n = 0; n < 5; n++) {
            rank(graph, n, 10, n);
        }
        Graphs.piece(graph, 0, 1, 11);
        Graphs.piece(graph, 0, 1, 9);
        rank(graph, 0, 9, 9);
        rank(graph, 1, 10, 0);
        rank(graph, 4, 10, 3);
        graph.closed(0, true);
        graph.closed(1, true);
        rank(graph, 1, 10, 2);
        rank(graph, 4, 10, 5);
    }

    private static void moverZero() {
        WayGraph graph = Graphs.flat(2);
        Graphs.piece(graph, 0, 1, 10);
        Graphs.piece(graph, 0, 1, 5);
        graph.limit(1, 4, 4);
        graph.mover(5, 5);
        graph.mover(1, 1);
        rank(graph, 0, 10, 0);
        rank(graph, 1, -1);
    }

    private static void waysAsTheyAre() {
        WayGraph graph = Graphs.flat(3);
        Graphs.piece(graph, 0, 2, 10);
        Graphs.piece(graph, 2, 1, 11);
        Graphs.piece(graph, 2, 1, 40);
        graph.mover(5, 5);
        graph.turn(0, 1, true);
        rank(graph, 0, 50, 0, 2);
        rank(graph, 1, -1);
        graph.closed(2, true);
        rank(graph, 0, -1);
        graph.closed(2, false);
        graph.limit(2, 4, 5);
        rank(graph, 0, -1);
        graph.limit(2, 5, 4);
        rank(graph, 0, -1);
        graph.limit(2, 5, 5);
        rank(graph, 0, 50, 0, 2);
        Graphs.onlyOpenIn(graph, 2);
        rank(graph, 0, -1);
    }

    private static void momentZero() {
        WayGraph graph = Graphs.flat(3);
        Graphs.piece(graph, 0, 2, 100);
        Graphs.piece(graph, 2, 1, 5);
        Graphs.piece(graph, 0, 1, 7);
        graph.mover(1, 1);
        graph.way(0, 0, 2, 50000);
        rank(graph, 0, 7, 2);
        Graphs.onlyOpenIn(graph, 2, 1);
        rank(graph, 0, 105, 0, 1);
        rank(graph, 1, Graphs.HOUR + 7, 2);
        Graphs.onlyOpenIn(graph, 0, 3);
        Graphs.onlyOpenIn(graph, 1, 2);
        rank(graph, 0, Graphs.HOUR + 7, 2);
        rank(graph, 1, Graphs.DAY + 2 * Graphs.HOUR + 5, 0, 1);
    }

    private static void noSuchPlaces() {
        WayGraph graph = Graphs.row(5);
        graph.way(0, 0, 1, 0);
        CHECK.unchanged(graph, () -> {
            for (int bad : new int[] {-1, 2, 19, 20, Integer.MIN_VALUE, Integer.MAX_VALUE}) {
                CHECK.badArgument("from " + bad, () -> graph.k(bad, 1, 0));
                CHECK.badArgument("to " + bad, () -> graph.k(0, bad, 0));
                CHECK.badArgument("from and to " + bad, () -> graph.k(bad, bad, 0));
            }
        });
    }

    private static void samePlaces() {
        WayGraph graph = Graphs.row(5);
        Graphs.piece(graph, 1, 0, 5);
        graph.way(0, 0, 1, 0);
        CHECK.unchanged(graph, () -> {
            CHECK.badArgument("k(0, 0, 0)", () -> graph.k(0, 0, 0));
            CHECK.badArgument("k(1, 1, 4)", () -> graph.k(1, 1, 4));
        });
    }

    private static void ranksRefused() {
        WayGraph graph = Graphs.flat(2);
        for (int i = 0; i < 7; i++) {
            Graphs.piece(graph, 0, 1, 5 + i);
        }
        graph.mover(1, 1);
        graph.way(0, 0, 1, 0);
        CHECK.unchanged(graph, () -> {
            for (int bad : new int[] {-1, 5, 6, Integer.MIN_VALUE, Integer.MAX_VALUE}) {
                CHECK.badArgument("n " + bad, () -> graph.k(0, 1, bad));
                CHECK.badArgument("n " + bad + " where there is no way", () -> graph.k(1, 0, bad));
            }
        });
        CHECK.due(5, "n 0", () -> graph.k(0, 1, 0));
        CHECK.due(9, "n 4", () -> graph.k(0, 1, 4));
    }

    private static void noMover() {
        WayGraph graph = Graphs.withPieces(1);
        CHECK.badState("k(0, 1, 0)", () -> graph.k(0, 1, 0));
        CHECK.badState("k(1, 0, 4), where there is no way", () -> graph.k(1, 0, 4));
        CHECK.due(-1, "a mover that fits nowhere", () -> graph.mover(10000, 10000));
        CHECK.badState("k(0, 1, 0) behind it", () -> graph.k(0, 1, 0));
        CHECK.due(-1, "step(0)", () -> graph.step(0));
        graph.mover(1, 1);
        CHECK.due(1, "k(0, 1, 0) with a mover", () -> graph.k(0, 1, 0));
    }

    private static void bothWrong() {
        WayGraph graph = Graphs.withPieces(1);
        CHECK.badArgument("one place, no mover", () -> graph.k(1, 1, 0));
        CHECK.badArgument("no such place, no mover", () -> graph.k(0, 3, 0));
        CHECK.badArgument("n 5, no mover", () -> graph.k(0, 1, 5));
        CHECK.badArgument("n -1, no mover", () -> graph.k(0, 1, -1));
    }
}
