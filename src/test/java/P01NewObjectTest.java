/** Promise 1, and the 512 calls of "What it is". */
public final class P01NewObjectTest {

    private static final Check CHECK = new Check("Promise 1");

    public static void main(String[] args) {
        CHECK.sentence("Nothing there.", P01NewObjectTest::nothingIsCounted);
        CHECK.sentence("Nothing there. (no places)", P01NewObjectTest::noPlaces);
        CHECK.sentence("Nothing there. (no pieces)", P01NewObjectTest::noPieces);
        CHECK.sentence("Nothing there. (no movers)", P01NewObjectTest::noMovers);
        CHECK.sentence("Nothing there. (no marked places)", P01NewObjectTest::noMarks);
        CHECK.sentence("Nothing there. (no way told)", P01NewObjectTest::noWayTold);
        CHECK.sentence("Nothing there. (whatever another object has)", P01NewObjectTest::nothingIsShared);
        CHECK.sentence("An object is used for at most 512 calls", P01NewObjectTest::theLastCallsHold);
        CHECK.finish();
    }

    private static void nothingIsCounted() {
        WayGraph graph = new WayGraph();
        for (int what = 0; what <= 4; what++) {
            int asked = what;
            CHECK.due(0, "count(" + what + ")", () -> graph.count(asked));
        }
    }

    private static void noPlaces() {
        WayGraph graph = new WayGraph();
        CHECK.badArgument("piece(0, 1, 5, 5)", () -> graph.piece(0, 1, 5, 5));
        CHECK.badArgument("lift(0, 1, 5)", () -> graph.lift(0, 1, 5));
        CHECK.badArgument("mark(0)", () -> graph.mark(0));
        CHECK.badArgument("k(0, 1, 0)", () -> graph.k(0, 1, 0));
        CHECK.due(0, "the first place", () -> graph.place(5));
    }

    private static void noPieces() {
        WayGraph graph = new WayGraph();
        CHECK.badArgument("limit(0, 5, 5)", () -> {
            graph.limit(0, 5, 5);
            return 0;
        });
        CHECK.badArgument("closed(0, true)", () -> graph.closed(0, true));
        CHECK.badArgument("turn(0, 0, true)", () -> graph.turn(0, 0, true));
        CHECK.badArgument("turn(0, 1, false)", () -> graph.turn(0, 1, false));
        CHECK.badArgument("door(0, 0, true)", () -> graph.door(0, 0, true));
        CHECK.badArgument("told(0, 0)", () -> graph.told(0, 0));
        CHECK.due(-1, "mover(1, 1), that fits no piece", () -> graph.mover(1, 1));
        graph.place(0);
        graph.place(0);
        CHECK.due(0, "the first piece", () -> graph.piece(0, 1, 5, 5));
    }

    private static void noMovers() {
        WayGraph graph = new WayGraph();
        CHECK.badArgument("way(0, 0, 0, 0) without places", () -> graph.way(0, 0, 0, 0));
        CHECK.badArgument("reaches(0, 0, 0) without places", () -> graph.reaches(0, 0, 0) ? 1 : 0);
        graph.place(0);
        graph.place(0);
        CHECK.badArgument("way(0, 0, 0, 0)", () -> graph.way(0, 0, 0, 0));
        CHECK.badArgument("reaches(0, 0, 0)", () -> graph.reaches(0, 0, 0) ? 1 : 0);
        CHECK.badState("k(0, 1, 0)", () -> graph.k(0, 1, 0));
        graph.piece(0, 1, 5, 5);
        CHECK.due(0, "the first mover", () -> graph.mover(1, 1));
    }

    private static void noMarks() {
        WayGraph graph = new WayGraph();
        CHECK.badArgument("table(0, 0)", () -> graph.table(0, 0));
        graph.place(0);
        CHECK.badArgument("table(0, 0) with a place", () -> graph.table(0, 0));
        CHECK.due(1, "the first mark", () -> graph.mark(0));
    }

    private static void noWayTold() {
        WayGraph graph = new WayGraph();
        CHECK.due(-1, "step(0)", () -> graph.step(0));
        CHECK.due(-1, "step(1)", () -> graph.step(1));
        WayGraph built = Graphs.row(1, 1);
        CHECK.due(-1, "step(0) of one with pieces", () -> built.step(0));
    }

    private static void nothingIsShared() {
        WayGraph other = Graphs.row(3, 4);
        other.mark(0);
        other.turn(0, 1, true);
        other.closed(1, true);
        other.way(0, 0, 1, 0);
        WayGraph graph = new WayGraph();
        CHECK.note("0 0 0 0 0 steps ", "a second object", Graphs.allTold(graph));
        graph.place(7);
        CHECK.due(3, "places of the first one", () -> other.count(0));
        CHECK.steps(other, "steps of the first one", 0);
    }

    /** Each kind of call once more at the end of 512, on an object that is full. */
    private static void theLastCallsHold() {
        WayGraph graph = new WayGraph();
        int calls = 0;
        for (int i = 0; i < 20; i++, calls++) {
            graph.place(i / 19);
        }
        for (int i = 0; i < 37; i++, calls++) {
            graph.piece(i % 18, i % 18 + 1, 10 + i, 1);
        }
        graph.lift(18, 19, 100);
        graph.mark(0);
        graph.mark(18);
        calls += 3;
        for (int i = 0; i < 5; i++, calls++) {
            graph.mover(1 + i, 1);
        }
        // Pieces 0 .. 17 are the quicker ones of the row: 10 + .. + 27 seconds.
        for (; calls < 496; calls += 3) {
            CHECK.due(333, "way, call " + calls, () -> graph.way(4, 0, 18, 10000000));
            CHECK.due(333, "table, call " + calls, () -> graph.table(0, 1));
            CHECK.due(10 + 11 + 12 + 13 + 14, "k, call " + calls, () -> graph.k(0, 5, 0));
        }
        lastFifteen(graph, calls);
    }

    private static void lastFifteen(WayGraph graph, int calls) {
        for (int i = calls; i < 497; i++) {
            graph.count(0);
        }
        CHECK.full("call 498: place", () -> graph.place(0));
        CHECK.due(39, "call 499: piece", () -> graph.piece(17, 18, 1, 1));
        CHECK.full("call 500: lift", () -> graph.lift(18, 19, 1));
        CHECK.due(5, "call 501: mover", () -> graph.mover(2000, 3000));
        CHECK.due(1, "call 502: closed", () -> graph.closed(0, true));
        CHECK.due(1, "call 503: turn", () -> graph.turn(1, 2, true));
        CHECK.due(23, "call 504: door", () -> graph.door(39, 0, false));
        CHECK.due(3, "call 505: mark", () -> graph.mark(19));
        CHECK.due(2000, "call 506: told", () -> graph.told(39, 5));
        CHECK.due(1, "call 507: count", () -> graph.count(4));
        CHECK.due(28 + 11 + 30 + 13 + 14, "call 508: k", () -> graph.k(0, 5, 0));
        // Piece 18 instead of 0, 20 instead of 2, not yet piece 39, and then the lift.
        CHECK.due(333 - 10 + 28 - 12 + 30 + 100, "call 509: table", () -> graph.table(0, 2));
        CHECK.yes("call 510: reaches", graph.reaches(5, 0, 19));
        CHECK.due(1, "call 511: way", () -> graph.way(5, 17, 18, 3600));
        CHECK.due(39, "call 512: step", () -> graph.step(0));
    }
}
