/** Promise 13. */
public final class P13MarkTest {

    private static final Check CHECK = new Check("Promise 13");

    public static void main(String[] args) {
        CHECK.sentence("A place is marked: how many are", P13MarkTest::howMany);
        CHECK.sentence("IllegalArgumentException if there is no such place", P13MarkTest::noSuchPlace);
        CHECK.sentence("IllegalStateException if it is marked", P13MarkTest::markedBefore);
        CHECK.sentence("UnsupportedOperationException if eight are", P13MarkTest::eight);
        CHECK.sentence("IllegalArgumentException .. ; IllegalStateException .. ; UnsupportedOperationException (more than one)",
                P13MarkTest::moreThanOne);
        CHECK.finish();
    }

    private static void howMany() {
        WayGraph graph = Graphs.flat(20);
        CHECK.due(1, "mark(19)", () -> graph.mark(19));
        CHECK.due(2, "mark(0)", () -> graph.mark(0));
        CHECK.due(3, "mark(10)", () -> graph.mark(10));
        CHECK.due(3, "count(3)", () -> graph.count(3));
    }

    private static void noSuchPlace() {
        WayGraph graph = Graphs.flat(2);
        graph.mark(0);
        CHECK.unchanged(graph, () -> {
            for (int bad : new int[] {-1, 2, 19, 20, Integer.MIN_VALUE, Integer.MAX_VALUE}) {
                CHECK.badArgument("mark(" + bad + ")", () -> graph.mark(bad));
            }
        });
        CHECK.due(2, "the last place", () -> graph.mark(1));
    }

    private static void markedBefore() {
        WayGraph graph = Graphs.flat(3);
        graph.mark(2);
        CHECK.badState("mark(2) again", () -> graph.mark(2));
        graph.mark(0);
        CHECK.unchanged(graph, () -> {
            CHECK.badState("the first marked again", () -> graph.mark(2));
            CHECK.badState("the last marked again", () -> graph.mark(0));
        });
        CHECK.due(3, "another one", () -> graph.mark(1));
    }

    private static void eight() {
        WayGraph graph = Graphs.flat(10);
        for (int i = 1; i <= 8; i++) {
            int marked = i;
            CHECK.due(marked, "mark with " + (i - 1) + " there", () -> graph.mark(10 - marked));
        }
        CHECK.unchanged(graph, () -> {
            CHECK.full("mark(0) with 8 there", () -> graph.mark(0));
            CHECK.full("mark(1) with 8 there", () -> graph.mark(1));
        });
        CHECK.due(8, "count(3)", () -> graph.count(3));
    }

    private static void moreThanOne() {
        WayGraph graph = Graphs.flat(10);
        for (int i = 0; i < 8; i++) {
            graph.mark(i);
        }
        CHECK.badArgument("mark(-1) with 8 there", () -> graph.mark(-1));
        CHECK.badArgument("mark(10) with 8 there", () -> graph.mark(10));
        CHECK.badState("the first marked again with 8 there", () -> graph.mark(0));
        CHECK.badState("the last marked again with 8 there", () -> graph.mark(7));
    }
}
