/** Objects to begin a test with, and what an object tells of itself. */
final class Graphs {

    static final long HOUR = 3600;
    static final long DAY = 24 * HOUR;
    static final int ALL_HOURS = 0xffffff;

    private Graphs() {
    }

    /** Places 0, 1, .. on these levels, and nothing else. */
    static WayGraph onLevels(int... levels) {
        WayGraph graph = new WayGraph();
        for (int level : levels) {
            graph.place(level);
        }
        return graph;
    }

    /** So many places on level 0, and nothing else. */
    static WayGraph flat(int places) {
        return onLevels(new int[places]);
    }

    /** Places 0 and 1 on level 0 and 2 on level 1, and so many pieces of a second from 0 to 1. */
    static WayGraph withPieces(int pieces) {
        WayGraph graph = onLevels(0, 0, 1);
        for (int i = 0; i < pieces; i++) {
            piece(graph, 0, 1, 1);
        }
        return graph;
    }

    /** Places in a row, piece i of so many seconds leading from place i to the next, and mover 0. */
    static WayGraph row(long... seconds) {
        WayGraph graph = flat(seconds.length + 1);
        for (int i = 0; i < seconds.length; i++) {
            piece(graph, i, i + 1, seconds[i]);
        }
        graph.mover(1, 1);
        return graph;
    }

    static int piece(WayGraph graph, int a, int b, long seconds) {
        return graph.piece(a, b, seconds, 1);
    }

    static void onlyOpenIn(WayGraph graph, int piece, int... hours) {
        for (int hour = 0; hour < 24; hour++) {
            graph.door(piece, hour, false);
        }
        for (int hour : hours) {
            graph.door(piece, hour, true);
        }
    }

    static String steps(WayGraph graph) {
        StringBuilder steps = new StringBuilder();
        for (int i = 0; i < 60 && graph.step(i) != -1; i++) {
            steps.append(graph.step(i)).append(' ');
        }
        return steps.toString();
    }

    static String allTold(WayGraph graph) {
        StringBuilder all = new StringBuilder();
        for (int what = 0; what < 5; what++) {
            all.append(graph.count(what)).append(' ');
        }
        for (int piece = 0; piece < graph.count(1); piece++) {
            all.append('/');
            for (int what = 0; what < 7; what++) {
                all.append(graph.told(piece, what)).append(' ');
            }
        }
        return all.append("steps ").append(steps(graph)).toString();
    }
}
