/** Promise 9. */
public final class P09DoorTest {

    private static final Check CHECK = new Check("Promise 9");

    public static void main(String[] args) {
        CHECK.sentence("The door of a piece is open in an hour (0 .. 23), or not", P09DoorTest::everyHour);
        CHECK.sentence("how many hours it is open then", P09DoorTest::howMany);
        CHECK.sentence("The door of a piece", P09DoorTest::ofOnePiece);
        CHECK.sentence("IllegalArgumentException (hour)", P09DoorTest::hoursRefused);
        CHECK.sentence("IllegalArgumentException (no such piece)", P09DoorTest::noSuchPiece);
        CHECK.finish();
    }

    private static void everyHour() {
        WayGraph graph = Graphs.withPieces(1);
        for (int i = 0; i < 24; i++) {
            int hour = i;
            CHECK.due(23, "door(0, " + hour + ", false)", () -> graph.door(0, hour, false));
            CHECK.due(Graphs.ALL_HOURS - (1 << hour), "hours without " + hour, () -> graph.told(0, 4));
            CHECK.due(24, "door(0, " + hour + ", true)", () -> graph.door(0, hour, true));
            CHECK.due(Graphs.ALL_HOURS, "hours with " + hour, () -> graph.told(0, 4));
        }
    }

    private static void howMany() {
        WayGraph graph = Graphs.withPieces(1);
        CHECK.due(24, "an open hour opened", () -> graph.door(0, 5, true));
        for (int i = 0; i < 24; i++) {
            int hour = i;
            CHECK.due(23 - hour, "door(0, " + hour + ", false)", () -> graph.door(0, hour, false));
        }
        CHECK.due(0, "a shut hour shut", () -> graph.door(0, 5, false));
        CHECK.due(1, "the last hour opened", () -> graph.door(0, 23, true));
        CHECK.due(2, "the first hour opened", () -> graph.door(0, 0, true));
        CHECK.due(2, "the first hour opened again", () -> graph.door(0, 0, true));
    }

    private static void ofOnePiece() {
        WayGraph graph = Graphs.withPieces(1);
        graph.lift(0, 2, 5);
        CHECK.due(23, "door(1, 0, false)", () -> graph.door(1, 0, false));
        CHECK.due(23, "door(2, 23, false)", () -> graph.door(2, 23, false));
        CHECK.due(Graphs.ALL_HOURS, "hours of piece 0", () -> graph.told(0, 4));
        CHECK.due(Graphs.ALL_HOURS - 1, "hours of the lift there", () -> graph.told(1, 4));
        CHECK.due(Graphs.ALL_HOURS >> 1, "hours of the lift back", () -> graph.told(2, 4));
        WayGraph forty = Graphs.withPieces(40);
        CHECK.due(23, "door(39, 7, false)", () -> forty.door(39, 7, false));
        CHECK.due(24, "door(38, 7, true)", () -> forty.door(38, 7, true));
    }

    private static void hoursRefused() {
        WayGraph graph = Graphs.withPieces(1);
        graph.door(0, 0, false);
        CHECK.unchanged(graph, () -> {
            for (int bad : new int[] {-1, 24, 32, 64, Integer.MIN_VALUE, Integer.MAX_VALUE}) {
                CHECK.badArgument("hour " + bad + " open", () -> graph.door(0, bad, true));
                CHECK.badArgument("hour " + bad + " shut", () -> graph.door(0, bad, false));
            }
        });
    }

    private static void noSuchPiece() {
        WayGraph graph = Graphs.withPieces(2);
        graph.door(0, 0, false);
        CHECK.unchanged(graph, () -> {
            for (int bad : new int[] {-1, 2, 39, 40, Integer.MIN_VALUE, Integer.MAX_VALUE}) {
                CHECK.badArgument("piece " + bad, () -> graph.door(bad, 0, false));
            }
        });
    }
}
