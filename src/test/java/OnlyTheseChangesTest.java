/** "Nothing .. beyond the answers and state changes described": each call changes what its promise says alone. */
public final class OnlyTheseChangesTest {

    private static final Check CHECK = new Check("State changes");

    public static void main(String[] args) {
        CHECK.sentence("told, count, step (answers alone)", OnlyTheseChangesTest::tellingChangesNothing);
        CHECK.sentence("reaches, table (answers alone)", OnlyTheseChangesTest::askingChangesNothing);
        CHECK.sentence("way, k (what step() tells alone)", OnlyTheseChangesTest::waysChangeSteps);
        CHECK.sentence("the same call, the same answer", OnlyTheseChangesTest::sameAnswers);
        CHECK.sentence("place, mover, mark (one more alone)", OnlyTheseChangesTest::oneMore);
        CHECK.sentence("piece, lift (one or two more alone)", OnlyTheseChangesTest::morePieces);
        CHECK.sentence("limit, closed, door (of that piece alone)", OnlyTheseChangesTest::ofThatPiece);
        CHECK.sentence("turn (that turn alone)", OnlyTheseChangesTest::thatTurn);
        CHECK.finish();
    }

    private static final String COUNTED = "3 4 1 2 1 ";
    private static final String PIECE_0 = "/0 1 10 0 16777215 2000 3000 ";
    private static final String PIECE_1 = "/1 0 20 1 16777215 2000 3000 ";
    private static final String PIECE_2 = "/0 2 30 0 16777214 2000 3000 ";
    private static final String PIECE_3 = "/2 0 30 0 16777215 7 8 ";
    private static final String STEPS = "steps 0 ";

    /** Something of each kind is there, and the way over piece 0 is told. */
    private static WayGraph built() {
        WayGraph graph = Graphs.onLevels(0, 0, 1);
        Graphs.piece(graph, 0, 1, 10);
        Graphs.piece(graph, 1, 0, 20);
        graph.lift(0, 2, 30);
        graph.mover(5, 5);
        graph.mark(1);
        graph.mark(0);
        graph.closed(1, true);
        graph.door(2, 0, false);
        graph.limit(3, 7, 8);
        graph.turn(0, 1, true);
        graph.way(0, 0, 1, 0);
        return graph;
    }

    private static void told(WayGraph graph, String name, String... parts) {
        CHECK.note(String.join("", parts), name, Graphs.allTold(graph));
    }

    private static void asBuilt(WayGraph graph, String name) {
        told(graph, name, COUNTED, PIECE_0, PIECE_1, PIECE_2, PIECE_3, STEPS);
    }

    private static void tellingChangesNothing() {
        WayGraph graph = built();
        asBuilt(graph, "at first");
        asBuilt(graph, "told, count and step of all behind it");
        CHECK.due(-1, "count(5)", () -> graph.count(5));
        CHECK.due(-1, "step(1)", () -> graph.step(1));
        CHECK.due(-1, "step(-1)", () -> graph.step(-1));
        asBuilt(graph, "behind answers of -1");
    }

    private static void askingChangesNothing() {
        WayGraph graph = built();
        CHECK.yes("reaches(0, 0, 2)", graph.reaches(0, 0, 2));
        CHECK.no("reaches(0, 1, 0)", graph.reaches(0, 1, 0));
        CHECK.yes("reaches(0, 2, 2)", graph.reaches(0, 2, 2));
        asBuilt(graph, "behind reaches");
        CHECK.due(10, "table(1, 0)", () -> graph.table(1, 0));
        CHECK.due(-1, "table(0, 1)", () -> graph.table(0, 1));
        CHECK.due(0, "table(1, 1)", () -> graph.table(1, 1));
        asBuilt(graph, "behind table");
    }

    private static void waysChangeSteps() {
        WayGraph graph = built();
        CHECK.due(3630, "way(0, 0, 2, 0)", () -> graph.way(0, 0, 2, 0));
        told(graph, "behind way", COUNTED, PIECE_0, PIECE_1, PIECE_2, PIECE_3, "steps 2 ");
        CHECK.due(40, "k(2, 1, 0)", () -> graph.k(2, 1, 0));
        told(graph, "behind k", COUNTED, PIECE_0, PIECE_1, PIECE_2, PIECE_3, "steps 3 0 ");
        CHECK.due(-1, "way(0, 1, 0, 0)", () -> graph.way(0, 1, 0, 0));
        told(graph, "behind way without one", COUNTED, PIECE_0, PIECE_1, PIECE_2, PIECE_3, "steps ");
    }

    private static void sameAnswers() {
        WayGraph graph = built();
        for (int i = 0; i < 3; i++) {
            CHECK.due(3630, "way(0, 0, 2, 0), time " + i, () -> graph.way(0, 0, 2, 0));
            CHECK.steps(graph, "its steps, time " + i, 2);
            CHECK.due(40, "way(0, 2, 1, 5), time " + i, () -> graph.way(0, 2, 1, 5));
            CHECK.steps(graph, "its steps, time " + i, 3, 0);
            CHECK.due(3630, "k(0, 2, 0), time " + i, () -> graph.k(0, 2, 0));
            CHECK.due(-1, "k(0, 2, 1), time " + i, () -> graph.k(0, 2, 1));
            CHECK.due(10, "table(1, 0), time " + i, () -> graph.table(1, 0));
            CHECK.no("reaches(0, 1, 2), time " + i, graph.reaches(0, 1, 2));
        }
    }

    private static void oneMore() {
        WayGraph graph = built();
        graph.place(1);
        told(graph, "behind place", "4 4 1 2 1 ", PIECE_0, PIECE_1, PIECE_2, PIECE_3, STEPS);
        graph.mover(2000, 3000);
        told(graph, "behind mover", "4 4 2 2 1 ", PIECE_0, PIECE_1, PIECE_2, PIECE_3, STEPS);
        graph.mover(2001, 3000);
        told(graph, "behind a mover that fits none", "4 4 2 2 1 ", PIECE_0, PIECE_1, PIECE_2, PIECE_3, STEPS);
        graph.mark(3);
        told(graph, "behind mark", "4 4 2 3 1 ", PIECE_0, PIECE_1, PIECE_2, PIECE_3, STEPS);
        CHECK.yes("mover 0 comes down as before", graph.reaches(0, 2, 0));
        CHECK.no("mover 1 is too large for that", graph.reaches(1, 2, 0));
        CHECK.due(10, "the marks before are as they were", () -> graph.table(1, 0));
    }

    private static void morePieces() {
        WayGraph graph = built();
        graph.piece(0, 1, 7, 2);
        told(graph, "behind piece", "3 5 1 2 1 ", PIECE_0, PIECE_1, PIECE_2, PIECE_3,
                "/0 1 4 0 16777215 2000 3000 ", STEPS);
        graph.lift(2, 1, 9);
        told(graph, "behind lift", "3 7 1 2 1 ", PIECE_0, PIECE_1, PIECE_2, PIECE_3,
                "/0 1 4 0 16777215 2000 3000 ", "/2 1 9 0 16777215 2000 3000 ",
                "/1 2 9 0 16777215 2000 3000 ", STEPS);
    }

    private static void ofThatPiece() {
        WayGraph graph = built();
        graph.limit(0, 9, 10);
        told(graph, "behind limit", COUNTED, "/0 1 10 0 16777215 9 10 ", PIECE_1, PIECE_2, PIECE_3, STEPS);
        graph.closed(0, true);
        told(graph, "behind closed", COUNTED, "/0 1 10 1 16777215 9 10 ", PIECE_1, PIECE_2, PIECE_3, STEPS);
        graph.closed(1, false);
        told(graph, "behind closed, opened", COUNTED, "/0 1 10 1 16777215 9 10 ",
                "/1 0 20 0 16777215 2000 3000 ", PIECE_2, PIECE_3, STEPS);
        graph.door(0, 23, false);
        told(graph, "behind door", COUNTED, "/0 1 10 1 8388607 9 10 ",
                "/1 0 20 0 16777215 2000 3000 ", PIECE_2, PIECE_3, STEPS);
    }

    private static void thatTurn() {
        WayGraph graph = built();
        graph.turn(3, 0, true);
        told(graph, "behind turn", "3 4 1 2 2 ", PIECE_0, PIECE_1, PIECE_2, PIECE_3, STEPS);
        CHECK.no("over the turn", graph.reaches(0, 2, 1));
        CHECK.yes("down alone", graph.reaches(0, 2, 0));
        CHECK.yes("piece 0 alone", graph.reaches(0, 0, 1));
        graph.turn(0, 1, false);
        told(graph, "behind turn, barred no more", COUNTED, PIECE_0, PIECE_1, PIECE_2, PIECE_3, STEPS);
        CHECK.no("over the other turn", graph.reaches(0, 2, 1));
    }
}
