/** Promise 17. */
public final class P17CountTest {

    private static final Check CHECK = new Check("Promise 17");

    public static void main(String[] args) {
        CHECK.sentence("0 places, 1 pieces, 2 movers, 3 marked places, 4 turns that are barred", P17CountTest::each);
        CHECK.sentence("0 places, .. (none)", P17CountTest::none);
        CHECK.sentence("0 places, .. (all there can be)", P17CountTest::all);
        CHECK.sentence("4 turns that are barred", P17CountTest::turns);
        CHECK.sentence("-1 for another what", P17CountTest::another);
        CHECK.finish();
    }

    private static void counts(WayGraph graph, String name, int... due) {
        for (int i = 0; i < due.length; i++) {
            int what = i;
            CHECK.due(due[i], name + ": count(" + what + ")", () -> graph.count(what));
        }
    }

    private static void each() {
        WayGraph graph = new WayGraph();
        graph.place(0);
        counts(graph, "a place", 1, 0, 0, 0, 0);
        graph.place(0);
        graph.place(1);
        graph.piece(0, 1, 5, 5);
        counts(graph, "and a piece", 3, 1, 0, 0, 0);
        graph.lift(1, 2, 5);
        counts(graph, "and a lift", 3, 3, 0, 0, 0);
        graph.mover(1, 1);
        counts(graph, "and a mover", 3, 3, 1, 0, 0);
        graph.mark(2);
        counts(graph, "and a mark", 3, 3, 1, 1, 0);
        graph.turn(0, 1, true);
        counts(graph, "and a turn", 3, 3, 1, 1, 1);
    }

    private static void none() {
        counts(new WayGraph(), "a new object", 0, 0, 0, 0, 0);
    }

    private static void all() {
        WayGraph graph = Graphs.flat(20);
        for (int i = 0; i < 20; i++) {
            Graphs.piece(graph, 0, 1, 5);
            Graphs.piece(graph, 1, 0, 5);
        }
        for (int i = 0; i < 6; i++) {
            graph.mover(1, 1);
        }
        for (int i = 0; i < 8; i++) {
            graph.mark(i);
        }
        // Of the 800 turns that there are, as many as an object's calls allow.
        for (int i = 0; i < 400; i++) {
            graph.turn(i / 20 * 2, i % 20 * 2 + 1, true);
        }
        counts(graph, "a full object", 20, 40, 6, 8, 400);
    }

    private static void turns() {
        WayGraph graph = Graphs.flat(3);
        Graphs.piece(graph, 0, 1, 1);
        Graphs.piece(graph, 1, 0, 1);
        Graphs.piece(graph, 1, 2, 1);
        graph.turn(0, 1, true);
        graph.turn(1, 0, true);
        graph.turn(0, 2, true);
        CHECK.due(3, "three", () -> graph.count(4));
        graph.turn(0, 2, true);
        CHECK.due(3, "one barred twice", () -> graph.count(4));
        graph.turn(1, 0, false);
        CHECK.due(2, "one barred no more", () -> graph.count(4));
        graph.turn(1, 0, false);
        CHECK.due(2, "the same again", () -> graph.count(4));
        graph.closed(0, true);
        CHECK.due(2, "turns at a closed piece", () -> graph.count(4));
    }

    private static void another() {
        WayGraph graph = Graphs.row(1, 1);
        for (int bad : new int[] {-1, 5, 6, Integer.MIN_VALUE, Integer.MAX_VALUE}) {
            CHECK.due(-1, "count(" + bad + ")", () -> graph.count(bad));
        }
        CHECK.due(-1, "count(-1) of a new object", () -> new WayGraph().count(-1));
        CHECK.due(-1, "count(5) of a new object", () -> new WayGraph().count(5));
    }
}
