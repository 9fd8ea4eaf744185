/** Promises 10 to 15: ways, their steps, marks and tables, the best short ways. */
public final class WaysTest {

    private static final long HOUR = 3600;
    private static final Check CHECK = new Check();

    public static void main(String[] args) {
        waysByTime();
        waysByLift();
        waysRefused();
        fitAndClosed();
        barredTurnsMakeADetour();
        barredTurnsAllowALoop();
        doorsAreWaitedFor();
        laterDaysHaveTheSameHours();
        equalLastPieces();
        equalPiecesBefore();
        waitingMakesPiecesBeforeEqual();
        directStartComesFirst();
        theLongestWay();
        stepTellsWhatWasTold();
        reaching();
        marks();
        tables();
        shortWays();
        shortWaysInOrder();
        shortWaysAreShort();
        shortWaysComeNowhereTwice();
        shortWaysAreForMoverZero();
        shortWaysRefused();
        CHECK.finish();
    }

    private static WayGraph placesOnLevelZero(int places) {
        WayGraph graph = new WayGraph();
        for (int i = 0; i < places; i++) {
            graph.place(0);
        }
        return graph;
    }

    private static int piece(WayGraph graph, int a, int b, long seconds) {
        return graph.piece(a, b, seconds, 1);
    }

    private static void onlyOpenIn(WayGraph graph, int piece, int... hours) {
        for (int hour = 0; hour < 24; hour++) {
            graph.door(piece, hour, false);
        }
        for (int hour : hours) {
            graph.door(piece, hour, true);
        }
    }

    private static void waysByTime() {
        WayGraph graph = placesOnLevelZero(4);
        piece(graph, 0, 2, 30);
        piece(graph, 1, 2, 11);
        piece(graph, 0, 1, 10);
        graph.mover(1, 1);
        CHECK.due(21, "two pieces beat one", () -> graph.way(0, 0, 2, 0));
        CHECK.steps(graph, "their steps", 2, 1);
        CHECK.due(21, "from the last moment", () -> graph.way(0, 0, 2, 10000000));
        CHECK.due(-1, "against the pieces", () -> graph.way(0, 2, 0, 0));
        CHECK.steps(graph, "no steps behind -1");
        CHECK.due(-1, "to a lone place", () -> graph.way(0, 0, 3, 0));
        CHECK.due(0, "from a place to itself", () -> graph.way(0, 3, 3, 77));
        CHECK.steps(graph, "no steps to itself");
    }

    private static void waysByLift() {
        WayGraph graph = new WayGraph();
        graph.place(4);
        graph.place(5);
        graph.place(5);
        graph.lift(0, 1, 40);
        piece(graph, 1, 2, 2);
        graph.mover(1, 1);
        CHECK.due(42, "up", () -> graph.way(0, 0, 2, 5));
        CHECK.steps(graph, "steps up", 0, 2);
        CHECK.due(40, "down", () -> graph.way(0, 1, 0, 5));
        CHECK.steps(graph, "steps down", 1);
    }

    private static void waysRefused() {
        WayGraph graph = placesOnLevelZero(2);
        CHECK.badArgument("no mover", () -> graph.way(0, 0, 1, 0));
        piece(graph, 0, 1, 10);
        graph.mover(1, 1);
        CHECK.badArgument("mover 1", () -> graph.way(1, 0, 1, 0));
        CHECK.badArgument("mover -1", () -> graph.way(-1, 0, 1, 0));
        CHECK.badArgument("from 2", () -> graph.way(0, 2, 1, 0));
        CHECK.badArgument("from -1", () -> graph.way(0, -1, 1, 0));
        CHECK.badArgument("to 2", () -> graph.way(0, 0, 2, 0));
        CHECK.badArgument("to -1", () -> graph.way(0, 0, -1, 0));
        CHECK.badArgument("t -1", () -> graph.way(0, 0, 1, -1));
        CHECK.badArgument("t 10000001", () -> graph.way(0, 0, 1, 10000001));
        CHECK.badArgument("t -1 to itself", () -> graph.way(0, 0, 0, -1));
        CHECK.badArgument("t 2^32", () -> graph.way(0, 0, 1, 1L << 32));
    }

    private static void fitAndClosed() {
        WayGraph graph = placesOnLevelZero(2);
        piece(graph, 0, 1, 10);
        piece(graph, 0, 1, 20);
        piece(graph, 0, 1, 30);
        graph.mover(500, 500);
        graph.limit(0, 500, 500);
        CHECK.due(10, "just fits", () -> graph.way(0, 0, 1, 0));
        graph.limit(0, 499, 9999);
        graph.limit(1, 9999, 499);
        CHECK.due(30, "too wide for one, too high for one", () -> graph.way(0, 0, 1, 0));
        graph.limit(0, 500, 500);
        graph.closed(0, true);
        CHECK.due(30, "one is closed", () -> graph.way(0, 0, 1, 0));
        onlyOpenIn(graph, 2);
        CHECK.due(-1, "a door without hours", () -> graph.way(0, 0, 1, 0));
        graph.closed(0, false);
        CHECK.due(10, "open again", () -> graph.way(0, 0, 1, 0));
    }

    private static void barredTurnsMakeADetour() {
        WayGraph graph = placesOnLevelZero(3);
        piece(graph, 0, 1, 1);
        piece(graph, 0, 1, 5);
        piece(graph, 1, 2, 1);
        graph.mover(1, 1);
        graph.turn(0, 2, true);
        CHECK.due(6, "the later piece may turn", () -> graph.way(0, 0, 2, 0));
        CHECK.steps(graph, "its steps", 1, 2);
        CHECK.due(1, "the place itself is reached first", () -> graph.way(0, 0, 1, 0));
        graph.turn(1, 2, true);
        CHECK.due(-1, "all turns barred", () -> graph.way(0, 0, 2, 0));
        CHECK.due(1, "no turn at the start", () -> graph.way(0, 1, 2, 0));
    }

    private static void barredTurnsAllowALoop() {
        WayGraph graph = placesOnLevelZero(4);
        piece(graph, 0, 1, 1);
        piece(graph, 1, 2, 1);
        piece(graph, 1, 3, 10);
        piece(graph, 3, 1, 10);
        graph.mover(1, 1);
        graph.turn(0, 1, true);
        CHECK.due(22, "a way may come to a place twice", () -> graph.way(0, 0, 2, 0));
        CHECK.steps(graph, "steps of the loop", 0, 2, 3, 1);
        CHECK.due(-1, "not so for the short ways", () -> graph.k(0, 2, 0));
        CHECK.yes("reaches by the loop", graph.reaches(0, 0, 2));
    }

    private static void doorsAreWaitedFor() {
        WayGraph graph = placesOnLevelZero(3);
        piece(graph, 0, 1, 100);
        piece(graph, 1, 2, 5);
        graph.mover(1, 1);
        onlyOpenIn(graph, 1, 2, 5);
        CHECK.due(2 * HOUR + 5, "waits for the hour", () -> graph.way(0, 0, 2, 0));
        CHECK.due(105, "enters at its first moment", () -> graph.way(0, 0, 2, 2 * HOUR - 100));
        CHECK.due(105, "enters at its last moment", () -> graph.way(0, 0, 2, 3 * HOUR - 101));
        CHECK.due(2 * HOUR + 105, "a moment too late", () -> graph.way(0, 0, 2, 3 * HOUR - 100));
        CHECK.due(20 * HOUR + 5, "over midnight", () -> graph.way(0, 1, 2, 6 * HOUR));
        onlyOpenIn(graph, 1, 7);
        CHECK.due(23 * HOUR + 5, "the longest wait", () -> graph.way(0, 1, 2, 8 * HOUR));
    }

    private static void laterDaysHaveTheSameHours() {
        WayGraph graph = placesOnLevelZero(2);
        piece(graph, 0, 1, 4);
        graph.mover(1, 1);
        onlyOpenIn(graph, 0, 0);
        CHECK.due(4, "day 3, hour 0", () -> graph.way(0, 0, 1, 72 * HOUR));
        CHECK.due(23 * HOUR + 4, "day 3, hour 1", () -> graph.way(0, 0, 1, 73 * HOUR));
        onlyOpenIn(graph, 0, 23);
        // 10000000 is hour 2777, the 17th of its day, with 2800 seconds gone.
        CHECK.due(6 * HOUR - 2800 + 4, "from the last moment", () -> graph.way(0, 0, 1, 10000000));
    }

    private static void equalLastPieces() {
        WayGraph graph = placesOnLevelZero(3);
        piece(graph, 1, 2, 5);
        piece(graph, 0, 2, 10);
        piece(graph, 0, 1, 5);
        graph.mover(1, 1);
        CHECK.due(10, "two ways of ten", () -> graph.way(0, 0, 2, 0));
        CHECK.steps(graph, "the least last number", 2, 0);
        graph.closed(0, true);
        graph.way(0, 0, 2, 0);
        CHECK.steps(graph, "the other one", 1);
    }

    private static void equalPiecesBefore() {
        WayGraph graph = placesOnLevelZero(4);
        piece(graph, 2, 3, 1);
        piece(graph, 0, 1, 4);
        piece(graph, 0, 2, 8);
        piece(graph, 1, 2, 4);
        graph.mover(1, 1);
        CHECK.due(9, "two pieces before", () -> graph.way(0, 0, 3, 0));
        CHECK.steps(graph, "the least number before", 2, 0);
        graph.turn(2, 0, true);
        CHECK.due(9, "the turn from it barred", () -> graph.way(0, 0, 3, 0));
        CHECK.steps(graph, "the other one before", 1, 3, 0);
    }

    private static void waitingMakesPiecesBeforeEqual() {
        WayGraph graph = placesOnLevelZero(3);
        piece(graph, 0, 1, 500);
        piece(graph, 0, 1, 5);
        piece(graph, 1, 2, 7);
        graph.mover(1, 1);
        onlyOpenIn(graph, 2, 1);
        CHECK.due(HOUR + 7, "both wait", () -> graph.way(0, 0, 2, 0));
        CHECK.steps(graph, "the slower one has the least number", 0, 2);
        CHECK.due(5, "to the place before", () -> graph.way(0, 0, 1, 0));
        CHECK.steps(graph, "there the faster one", 1);
    }

    private static void directStartComesFirst() {
        WayGraph graph = placesOnLevelZero(3);
        piece(graph, 1, 0, 5);
        piece(graph, 0, 1, 5);
        piece(graph, 0, 2, 7);
        graph.mover(1, 1);
        onlyOpenIn(graph, 2, 1);
        CHECK.due(HOUR + 7, "waits at the start", () -> graph.way(0, 0, 2, 0));
        CHECK.steps(graph, "and walks no loop meanwhile", 2);
    }

    /** All forty pieces in their order: every other turn is barred. */
    private static void theLongestWay() {
        int[] along = new int[41];
        for (int i = 1; i <= 36; i++) {
            along[i] = 1 + (i - 1) % 18;
        }
        along[37] = 1;
        along[38] = 2;
        along[39] = 1;
        along[40] = 19;
        WayGraph graph = placesOnLevelZero(20);
        for (int i = 0; i < 40; i++) {
            piece(graph, along[i], along[i + 1], 10000000);
        }
        for (int from = 0; from < 40; from++) {
            for (int to = 0; to < 40; to++) {
                if (along[from + 1] == along[to] && to != from + 1) {
                    graph.turn(from, to, true);
                }
            }
        }
        graph.mover(1, 1);
        CHECK.due(400000000, "all pieces", () -> graph.way(0, 0, 19, 10000000));
        int[] all = new int[40];
        for (int i = 0; i < 40; i++) {
            all[i] = i;
        }
        CHECK.steps(graph, "steps of all pieces", all);
        CHECK.due(-1, "step(40) of forty", () -> graph.step(40));
        CHECK.due(-1, "no short way", () -> graph.k(0, 19, 0));
    }

    private static void stepTellsWhatWasTold() {
        WayGraph graph = placesOnLevelZero(3);
        piece(graph, 0, 1, 10);
        piece(graph, 1, 2, 10);
        graph.mover(1, 1);
        graph.mark(0);
        graph.mark(1);
        CHECK.due(-1, "nothing told yet", () -> graph.step(0));
        graph.way(0, 0, 2, 0);
        graph.closed(1, true);
        graph.reaches(0, 0, 1);
        graph.table(0, 1);
        graph.table(1, 0);
        piece(graph, 0, 2, 1);
        CHECK.badArgument("way refused", () -> graph.way(0, 0, 9, 0));
        CHECK.badArgument("k refused", () -> graph.k(0, 0, 0));
        CHECK.steps(graph, "as it was told", 0, 1);
        CHECK.due(-1, "step(-1)", () -> graph.step(-1));
        CHECK.due(-1, "step(40)", () -> graph.step(40));
        CHECK.due(-1, "step(greatest int)", () -> graph.step(Integer.MAX_VALUE));
        CHECK.due(-1, "step(least int)", () -> graph.step(Integer.MIN_VALUE));
        graph.k(0, 2, 0);
        CHECK.steps(graph, "k tells too", 2);
        CHECK.due(-1, "k without a way", () -> graph.k(0, 2, 1));
        CHECK.steps(graph, "none behind -1 of k");
        graph.way(0, 0, 2, 0);
        CHECK.due(-1, "way without a way", () -> graph.way(0, 2, 0, 0));
        CHECK.steps(graph, "none behind -1 of way");
    }

    private static void reaching() {
        WayGraph graph = placesOnLevelZero(4);
        piece(graph, 0, 1, 10);
        piece(graph, 1, 2, 10);
        graph.mover(5, 5);
        graph.mover(1, 1);
        CHECK.yes("over two pieces", graph.reaches(0, 0, 2));
        CHECK.no("back", graph.reaches(0, 2, 0));
        CHECK.no("to a lone place", graph.reaches(0, 0, 3));
        CHECK.yes("a lone place itself", graph.reaches(0, 3, 3));
        onlyOpenIn(graph, 1, 17);
        CHECK.yes("with a wait", graph.reaches(0, 0, 2));
        graph.limit(1, 4, 4);
        CHECK.no("too wide", graph.reaches(0, 0, 2));
        CHECK.yes("the small one fits", graph.reaches(1, 0, 2));
        graph.turn(0, 1, true);
        CHECK.no("barred", graph.reaches(1, 0, 2));
        graph.turn(0, 1, false);
        onlyOpenIn(graph, 1);
        CHECK.no("never open", graph.reaches(1, 0, 2));
        onlyOpenIn(graph, 1, 0);
        graph.closed(0, true);
        CHECK.no("closed", graph.reaches(1, 0, 2));
        CHECK.badArgument("mover 2", () -> graph.reaches(2, 0, 1) ? 1 : 0);
        CHECK.badArgument("mover -1", () -> graph.reaches(-1, 0, 1) ? 1 : 0);
        CHECK.badArgument("from 4", () -> graph.reaches(0, 4, 1) ? 1 : 0);
        CHECK.badArgument("from -1", () -> graph.reaches(0, -1, 1) ? 1 : 0);
        CHECK.badArgument("to 4", () -> graph.reaches(0, 1, 4) ? 1 : 0);
        CHECK.badArgument("to -1", () -> graph.reaches(0, 1, -1) ? 1 : 0);
    }

    private static void marks() {
        WayGraph graph = placesOnLevelZero(10);
        for (int i = 1; i <= 8; i++) {
            int number = i;
            CHECK.due(number, "mark " + i, () -> graph.mark(10 - number));
            CHECK.badState("mark again " + i, () -> graph.mark(10 - number));
        }
        CHECK.full("mark 9", () -> graph.mark(0));
        CHECK.badState("marked, when full", () -> graph.mark(9));
        CHECK.badArgument("mark(10)", () -> graph.mark(10));
        CHECK.badArgument("mark(-1)", () -> graph.mark(-1));
        CHECK.due(8, "count(3)", () -> graph.count(3));
    }

    private static void tables() {
        WayGraph graph = placesOnLevelZero(3);
        CHECK.badArgument("no marks, no mover", () -> graph.table(0, 0));
        graph.mark(2);
        graph.mark(0);
        CHECK.badState("no mover", () -> graph.table(0, 1));
        CHECK.badState("no mover, one place", () -> graph.table(0, 0));
        CHECK.badArgument("no mover, no mark", () -> graph.table(0, 2));
        piece(graph, 0, 1, 10);
        piece(graph, 1, 2, 10);
        piece(graph, 0, 2, 5);
        graph.limit(2, 4, 4);
        graph.mover(5, 5);
        graph.mover(1, 1);
        CHECK.due(20, "for mover 0, in the order of marking", () -> graph.table(1, 0));
        CHECK.due(-1, "no way", () -> graph.table(0, 1));
        CHECK.due(0, "a place itself", () -> graph.table(0, 0));
        graph.limit(2, 5, 5);
        CHECK.due(5, "as all is now", () -> graph.table(1, 0));
        onlyOpenIn(graph, 2, 3);
        graph.closed(0, true);
        CHECK.due(3 * HOUR + 5, "from moment 0 on", () -> graph.table(1, 0));
        CHECK.badArgument("table(-1, 0)", () -> graph.table(-1, 0));
        CHECK.badArgument("table(0, -1)", () -> graph.table(0, -1));
        CHECK.badArgument("table(2, 0)", () -> graph.table(2, 0));
        CHECK.badArgument("table(0, 2)", () -> graph.table(0, 2));
    }

    private static void rank(WayGraph graph, int n, long seconds, int... pieces) {
        CHECK.due(seconds, "k(0, 1, " + n + ")", () -> graph.k(0, 1, n));
        CHECK.steps(graph, "steps of k(0, 1, " + n + ")", pieces);
    }

    private static void shortWays() {
        WayGraph graph = placesOnLevelZero(3);
        piece(graph, 0, 1, 30);
        piece(graph, 0, 2, 10);
        piece(graph, 2, 1, 11);
        piece(graph, 2, 1, 40);
        graph.mover(1, 1);
        rank(graph, 0, 21, 1, 2);
        rank(graph, 1, 30, 0);
        rank(graph, 2, 50, 1, 3);
        rank(graph, 3, -1);
        graph.turn(1, 2, true);
        rank(graph, 0, 30, 0);
        rank(graph, 1, 50, 1, 3);
        graph.closed(0, true);
        rank(graph, 0, 50, 1, 3);
        onlyOpenIn(graph, 3, 9);
        rank(graph, 0, 9 * HOUR + 40, 1, 3);
        onlyOpenIn(graph, 3);
        rank(graph, 0, -1);
    }

    private static void shortWaysInOrder() {
        WayGraph graph = placesOnLevelZero(3);
        piece(graph, 2, 1, 5);
        piece(graph, 0, 1, 10);
        piece(graph, 0, 2, 5);
        piece(graph, 0, 1, 10);
        piece(graph, 2, 1, 5);
        piece(graph, 0, 1, 9);
        piece(graph, 0, 1, 10);
        graph.mover(1, 1);
        rank(graph, 0, 9, 5);
        rank(graph, 1, 10, 1);
        rank(graph, 2, 10, 2, 0);
        rank(graph, 3, 10, 2, 4);
        rank(graph, 4, 10, 3);
        piece(graph, 0, 1, 1);
        rank(graph, 4, 10, 2, 4);
        piece(graph, 0, 1, 2);
        piece(graph, 0, 1, 3);
        piece(graph, 0, 1, 4);
        rank(graph, 4, 9, 5);
    }

    private static void shortWaysAreShort() {
        WayGraph graph = placesOnLevelZero(7);
        piece(graph, 0, 2, 1);
        piece(graph, 2, 3, 1);
        piece(graph, 3, 4, 1);
        piece(graph, 4, 5, 1);
        piece(graph, 5, 1, 1);
        graph.mover(1, 1);
        rank(graph, 0, 5, 0, 1, 2, 3, 4);
        graph.closed(4, true);
        piece(graph, 5, 6, 1);
        piece(graph, 6, 1, 1);
        rank(graph, 0, -1);
        CHECK.due(6, "way() may have six", () -> graph.way(0, 0, 1, 0));
    }

    private static void shortWaysComeNowhereTwice() {
        WayGraph graph = placesOnLevelZero(4);
        piece(graph, 0, 2, 1);
        piece(graph, 2, 0, 1);
        piece(graph, 2, 3, 1);
        piece(graph, 3, 2, 1);
        piece(graph, 2, 1, 1);
        piece(graph, 1, 2, 1);
        graph.mover(1, 1);
        rank(graph, 0, 2, 0, 4);
        rank(graph, 1, -1);
    }

    private static void shortWaysAreForMoverZero() {
        WayGraph graph = placesOnLevelZero(2);
        piece(graph, 0, 1, 10);
        piece(graph, 0, 1, 5);
        graph.limit(1, 4, 4);
        graph.mover(5, 5);
        graph.mover(1, 1);
        rank(graph, 0, 10, 0);
        rank(graph, 1, -1);
    }

    private static void shortWaysRefused() {
        WayGraph graph = placesOnLevelZero(2);
        CHECK.badState("no mover", () -> graph.k(0, 1, 0));
        CHECK.badArgument("no mover, one place", () -> graph.k(1, 1, 0));
        piece(graph, 0, 1, 10);
        graph.mover(1, 1);
        CHECK.badArgument("n -1", () -> graph.k(0, 1, -1));
        CHECK.badArgument("n 5", () -> graph.k(0, 1, 5));
        CHECK.badArgument("one place", () -> graph.k(0, 0, 0));
        CHECK.badArgument("from 2", () -> graph.k(2, 1, 0));
        CHECK.badArgument("from -1", () -> graph.k(-1, 1, 0));
        CHECK.badArgument("to 2", () -> graph.k(0, 2, 0));
        CHECK.badArgument("to -1", () -> graph.k(0, -1, 0));
        CHECK.due(-1, "n 4 of one way", () -> graph.k(0, 1, 4));
    }
}
