/** The section "Terms": numbers and limits at first, seconds, hours, and which of equal ones. */
public final class TermsTest {

    private static final long HOUR = Graphs.HOUR;
    private static final long DAY = Graphs.DAY;
    private static final Check CHECK = new Check("Terms");

    public static void main(String[] args) {
        CHECK.sentence("PLACES 0, 1, .. (at most 20)", TermsTest::places);
        CHECK.sentence("PIECES are numbered 0, 1, .. (at most 40)", TermsTest::pieces);
        CHECK.sentence("one way", TermsTest::oneWay);
        CHECK.sentence("its length divided by its speed, rounded up to whole SECONDS", TermsTest::roundedUp);
        CHECK.sentence("A LIFT .. is two pieces, there and back, that take its seconds", TermsTest::lift);
        CHECK.sentence("no wider and no higher than its LIMITS (2000, 3000 at first)", TermsTest::limits);
        CHECK.sentence("is open or CLOSED", TermsTest::openAtFirst);
        CHECK.sentence("a DOOR with 24 hours .. (all open at first)", TermsTest::allHoursOpen);
        CHECK.sentence("A MOVER (at most 6)", TermsTest::movers);
        CHECK.sentence("A TURN .. may be barred", TermsTest::turns);
        CHECK.sentence("USES a piece .. if it fits, the piece is not closed and its door has an open hour",
                TermsTest::uses);
        CHECK.sentence("enters it at t if the hour t / 3600 .. is open", TermsTest::theHour);
        CHECK.sentence("(rest of its division by 24)", TermsTest::pastMidnight);
        CHECK.sentence("else at the first moment later with an open hour", TermsTest::waits);
        CHECK.sentence("it is at its end its seconds later", TermsTest::secondsLater);
        CHECK.sentence("each beginning where the one before ended (the first one at the place)", TermsTest::joined);
        CHECK.sentence("each used from the moment on at which the one before was at its end", TermsTest::oneAfterAnother);
        CHECK.sentence("no turn barred", TermsTest::noTurnBarred);
        CHECK.sentence("REACHED at the least moment", TermsTest::leastMoment);
        CHECK.sentence("The piece BEFORE it: none, if it begins at the place", TermsTest::noneBefore);
        CHECK.sentence("else the one with the least number", TermsTest::leastNumberBefore);
        CHECK.sentence("that ends where it begins", TermsTest::endsWhereItBegins);
        CHECK.sentence("the turn not barred", TermsTest::turnNotBarredBefore);
        CHECK.sentence("reached so early that it comes out at that moment", TermsTest::earlyEnoughBefore);
        CHECK.sentence("ends with the piece that is reached first", TermsTest::reachedFirst);
        CHECK.sentence("of equal ones that with the least number", TermsTest::leastNumberOfEqual);
        CHECK.sentence("the pieces before it are those before each", TermsTest::beforeEach);
        CHECK.sentence("(From a place to itself it has no pieces.)", TermsTest::toItself);
        CHECK.finish();
    }

    private static void places() {
        WayGraph graph = new WayGraph();
        for (int i = 0; i < 20; i++) {
            int number = i;
            CHECK.due(number, "place " + i, () -> graph.place(0));
        }
        CHECK.full("place 20", () -> graph.place(0));
    }

    private static void pieces() {
        WayGraph graph = Graphs.onLevels(0, 0, 1);
        for (int i = 0; i < 20; i++) {
            int number = i;
            CHECK.due(number, "piece " + i, () -> graph.piece(0, 1, 5, 5));
        }
        for (int i = 20; i < 40; i += 2) {
            int number = i;
            CHECK.due(number, "lift " + i, () -> graph.lift(0, 2, 5));
        }
        CHECK.full("piece 40", () -> graph.piece(0, 1, 5, 5));
        CHECK.full("lift 40", () -> graph.lift(0, 2, 5));
    }

    private static void oneWay() {
        WayGraph graph = Graphs.row(7);
        CHECK.due(7, "there", () -> graph.way(0, 0, 1, 0));
        CHECK.due(-1, "back", () -> graph.way(0, 1, 0, 0));
    }

    private static void seconds(long length, long speed, long due) {
        WayGraph graph = Graphs.flat(2);
        graph.piece(0, 1, length, speed);
        graph.mover(1, 1);
        CHECK.due(due, "seconds of " + length + " / " + speed, () -> graph.told(0, 2));
        CHECK.due(due, "way of " + length + " / " + speed, () -> graph.way(0, 0, 1, 0));
    }

    private static void roundedUp() {
        seconds(1, 1, 1);
        seconds(1, 2, 1);
        seconds(1, 10000, 1);
        seconds(9999, 10000, 1);
        seconds(10000, 10000, 1);
        seconds(10001, 10000, 2);
        seconds(999, 100, 10);
        seconds(1000, 100, 10);
        seconds(1001, 100, 11);
        seconds(10000000, 1, 10000000);
        seconds(10000000, 3, 3333334);
        seconds(10000000, 9999, 1001);
        seconds(10000000, 10000, 1000);
        seconds(9999999, 10000, 1000);
        seconds(9990001, 10000, 1000);
        seconds(9990000, 10000, 999);
    }

    private static void lift() {
        WayGraph graph = Graphs.onLevels(4, 5, 5);
        graph.lift(0, 1, 40);
        Graphs.piece(graph, 1, 2, 2);
        graph.mover(1, 1);
        CHECK.due(42, "up and on", () -> graph.way(0, 0, 2, 5));
        CHECK.steps(graph, "steps up and on", 0, 2);
        CHECK.due(40, "down", () -> graph.way(0, 1, 0, 5));
        CHECK.steps(graph, "steps down", 1);
    }

    private static void limits() {
        WayGraph graph = Graphs.withPieces(2);
        graph.limit(1, 10000, 10000);
        graph.closed(1, true);
        CHECK.due(2000, "limit of width", () -> graph.told(0, 5));
        CHECK.due(3000, "limit of height", () -> graph.told(0, 6));
        graph.mover(2000, 3000);
        graph.mover(2001, 3000);
        graph.mover(2000, 3001);
        CHECK.yes("as wide and as high as the limits", graph.reaches(0, 0, 1));
        CHECK.no("one wider", graph.reaches(1, 0, 1));
        CHECK.no("one higher", graph.reaches(2, 0, 1));
    }

    private static void openAtFirst() {
        WayGraph graph = Graphs.withPieces(1);
        graph.lift(0, 2, 5);
        for (int i = 0; i < 3; i++) {
            int piece = i;
            CHECK.due(0, "piece " + i + " is closed", () -> graph.told(piece, 3));
        }
    }

    private static void allHoursOpen() {
        WayGraph graph = Graphs.row(1);
        CHECK.due(Graphs.ALL_HOURS, "hours as bits", () -> graph.told(0, 4));
        CHECK.due(24, "hours counted", () -> graph.door(0, 12, true));
        for (int hour = 0; hour < 25; hour++) {
            long first = hour * HOUR;
            CHECK.due(1, "no wait at " + first, () -> graph.way(0, 0, 1, first));
        }
    }

    private static void movers() {
        WayGraph graph = Graphs.withPieces(1);
        for (int i = 0; i < 6; i++) {
            int number = i;
            CHECK.due(number, "mover " + i, () -> graph.mover(1, 1));
        }
        CHECK.full("mover 6", () -> graph.mover(1, 1));
        CHECK.due(1, "the way of mover 5", () -> graph.way(5, 0, 1, 0));
        CHECK.badArgument("the way of mover 6", () -> graph.way(6, 0, 1, 0));
    }

    private static void turns() {
        WayGraph graph = Graphs.row(1, 1);
        CHECK.due(0, "barred at first", () -> graph.count(4));
        CHECK.due(2, "the way with the turn", () -> graph.way(0, 0, 2, 0));
        graph.turn(0, 1, true);
        CHECK.due(-1, "the way without it", () -> graph.way(0, 0, 2, 0));
        CHECK.due(1, "a way that begins behind it", () -> graph.way(0, 1, 2, 0));
        CHECK.due(1, "a way that ends before it", () -> graph.way(0, 0, 1, 0));
    }

    private static void uses() {
        WayGraph graph = Graphs.flat(2);
        for (int i = 1; i <= 4; i++) {
            Graphs.piece(graph, 0, 1, 10 * i);
        }
        graph.mover(500, 600);
        graph.limit(0, 500, 600);
        CHECK.due(10, "just fits", () -> graph.way(0, 0, 1, 0));
        graph.limit(0, 499, 10000);
        CHECK.due(20, "too wide for piece 0", () -> graph.way(0, 0, 1, 0));
        graph.limit(1, 10000, 599);
        CHECK.due(30, "too high for piece 1", () -> graph.way(0, 0, 1, 0));
        graph.closed(2, true);
        CHECK.due(40, "piece 2 is closed", () -> graph.way(0, 0, 1, 0));
        Graphs.onlyOpenIn(graph, 3);
        CHECK.due(-1, "piece 3 has no open hour", () -> graph.way(0, 0, 1, 0));
        graph.door(3, 23, true);
        CHECK.due(23 * HOUR + 40, "piece 3 has one", () -> graph.way(0, 0, 1, 0));
    }

    private static void theHour() {
        WayGraph graph = Graphs.row(5);
        Graphs.onlyOpenIn(graph, 0, 2);
        CHECK.due(6, "a moment before the hour", () -> graph.way(0, 0, 1, 2 * HOUR - 1));
        CHECK.due(5, "its first moment", () -> graph.way(0, 0, 1, 2 * HOUR));
        CHECK.due(5, "its last moment", () -> graph.way(0, 0, 1, 3 * HOUR - 1));
        CHECK.due(23 * HOUR + 5, "a moment behind it", () -> graph.way(0, 0, 1, 3 * HOUR));
        Graphs.onlyOpenIn(graph, 0, 0);
        CHECK.due(5, "moment 0", () -> graph.way(0, 0, 1, 0));
        CHECK.due(5, "moment 3599", () -> graph.way(0, 0, 1, 3599));
        CHECK.due(23 * HOUR + 5, "moment 3600", () -> graph.way(0, 0, 1, 3600));
    }

    private static void pastMidnight() {
        WayGraph graph = Graphs.row(5);
        Graphs.onlyOpenIn(graph, 0, 23);
        CHECK.due(5, "the last moment of day 0", () -> graph.way(0, 0, 1, DAY - 1));
        CHECK.due(23 * HOUR + 5, "the first moment of day 1", () -> graph.way(0, 0, 1, DAY));
        CHECK.due(5, "hour 23 of day 1", () -> graph.way(0, 0, 1, DAY + 23 * HOUR));
        Graphs.onlyOpenIn(graph, 0, 0);
        CHECK.due(6, "a moment before midnight", () -> graph.way(0, 0, 1, DAY - 1));
        CHECK.due(5, "midnight", () -> graph.way(0, 0, 1, DAY));
        CHECK.due(5, "midnight of day 115", () -> graph.way(0, 0, 1, 115 * DAY));
        CHECK.due(23 * HOUR + 5, "hour 1 of day 115", () -> graph.way(0, 0, 1, 115 * DAY + HOUR));
        // 10000000 is in hour 17 of day 115, with 2800 seconds of that hour gone.
        CHECK.due(7 * HOUR - 2800 + 5, "the last moment to begin", () -> graph.way(0, 0, 1, 10000000));
        Graphs.onlyOpenIn(graph, 0, 17);
        CHECK.due(5, "the last moment to begin, open", () -> graph.way(0, 0, 1, 10000000));
        Graphs.onlyOpenIn(graph, 0, 16);
        CHECK.due(23 * HOUR - 2800 + 5, "the last moment to begin, just shut", () -> graph.way(0, 0, 1, 10000000));
    }

    private static void waits() {
        WayGraph graph = Graphs.row(5);
        Graphs.onlyOpenIn(graph, 0, 4, 9, 20);
        CHECK.due(4 * HOUR + 5, "for the first of the day", () -> graph.way(0, 0, 1, 0));
        CHECK.due(4 * HOUR + 5, "for the next one", () -> graph.way(0, 0, 1, 5 * HOUR));
        CHECK.due(HOUR - 30 + 5, "for less than an hour", () -> graph.way(0, 0, 1, 8 * HOUR + 30));
        CHECK.due(7 * HOUR + 5, "over midnight", () -> graph.way(0, 0, 1, 21 * HOUR));
        CHECK.due(7 * HOUR - 1 + 5, "over midnight, a moment later", () -> graph.way(0, 0, 1, 21 * HOUR + 1));
        Graphs.onlyOpenIn(graph, 0, 7);
        CHECK.due(23 * HOUR + 5, "the longest wait", () -> graph.way(0, 0, 1, 8 * HOUR));
        Graphs.onlyOpenIn(graph, 0, 23);
        CHECK.due(23 * HOUR + 5, "the longest wait from midnight on", () -> graph.way(0, 0, 1, 0));
    }

    private static void secondsLater() {
        WayGraph graph = Graphs.row(2 * DAY);
        Graphs.onlyOpenIn(graph, 0, 6);
        CHECK.due(2 * DAY, "goes on while its door is shut", () -> graph.way(0, 0, 1, 7 * HOUR - 1));
        CHECK.due(6 * HOUR + 2 * DAY, "behind a wait", () -> graph.way(0, 0, 1, 0));
    }

    private static void joined() {
        WayGraph graph = Graphs.row(10, 10, 10);
        Graphs.piece(graph, 3, 1, 1);
        CHECK.due(30, "over all between", () -> graph.way(0, 0, 3, 0));
        CHECK.steps(graph, "no piece left out", 0, 1, 2);
        CHECK.due(10, "not by a quicker one that begins elsewhere", () -> graph.way(0, 0, 1, 0));
        CHECK.steps(graph, "the one that begins at the place", 0);
        CHECK.due(11, "from place 2 round to place 1", () -> graph.way(0, 2, 1, 0));
        CHECK.steps(graph, "round", 2, 3);
        graph.closed(1, true);
        CHECK.due(-1, "with a gap between", () -> graph.way(0, 0, 3, 0));
        CHECK.no("reaches over the gap", graph.reaches(0, 0, 3));
    }

    private static void oneAfterAnother() {
        WayGraph graph = Graphs.row(100, 5, 7);
        Graphs.onlyOpenIn(graph, 1, 2);
        CHECK.due(105, "comes at the first open moment", () -> graph.way(0, 0, 2, 2 * HOUR - 100));
        CHECK.due(106, "comes a moment before it", () -> graph.way(0, 0, 2, 2 * HOUR - 101));
        CHECK.due(105, "comes at the last open moment", () -> graph.way(0, 0, 2, 3 * HOUR - 101));
        CHECK.due(23 * HOUR + 105, "comes a moment behind it", () -> graph.way(0, 0, 2, 3 * HOUR - 100));
        Graphs.onlyOpenIn(graph, 2, 1);
        CHECK.due(DAY + HOUR + 7, "waits twice, to the day after", () -> graph.way(0, 0, 3, 0));
        CHECK.steps(graph, "steps with two waits", 0, 1, 2);
        Graphs.onlyOpenIn(graph, 1, 0);
        CHECK.due(100 + 5, "midnight comes within piece 0", () -> graph.way(0, 0, 2, DAY - 100));
        CHECK.due(101 + 5, "midnight comes a moment behind it", () -> graph.way(0, 0, 2, DAY - 101));
    }

    private static void noTurnBarred() {
        WayGraph graph = Graphs.row(1, 1);
        graph.place(0);
        Graphs.piece(graph, 1, 3, 10);
        Graphs.piece(graph, 3, 1, 10);
        graph.turn(0, 1, true);
        CHECK.due(22, "a loop goes round the barred turn", () -> graph.way(0, 0, 2, 0));
        CHECK.steps(graph, "its steps", 0, 2, 3, 1);
        graph.turn(2, 3, true);
        CHECK.due(-1, "the loop barred too", () -> graph.way(0, 0, 2, 0));
        CHECK.due(1, "a way that begins between", () -> graph.way(0, 1, 2, 0));
    }

    private static void leastMoment() {
        WayGraph graph = Graphs.flat(4);
        Graphs.piece(graph, 2, 3, 1);
        Graphs.piece(graph, 0, 2, 30);
        Graphs.piece(graph, 0, 1, 10);
        Graphs.piece(graph, 1, 2, 19);
        graph.mover(1, 1);
        CHECK.due(30, "two pieces beat one", () -> graph.way(0, 0, 3, 0));
        CHECK.steps(graph, "two before the last", 2, 3, 0);
        graph.limit(3, 1, 1);
        graph.mover(2, 2);
        CHECK.due(31, "the one, where the two do not fit", () -> graph.way(1, 0, 3, 0));
        CHECK.steps(graph, "one before the last", 1, 0);
    }

    private static void noneBefore() {
        WayGraph graph = Graphs.flat(3);
        Graphs.piece(graph, 1, 0, 5);
        Graphs.piece(graph, 0, 1, 5);
        Graphs.piece(graph, 0, 2, 7);
        graph.mover(1, 1);
        Graphs.onlyOpenIn(graph, 2, 1);
        // A loop over pieces 1 and 0 would come back to the door before it opens.
        CHECK.due(HOUR + 7, "waits at the place", () -> graph.way(0, 0, 2, 0));
        CHECK.steps(graph, "and walks no loop", 2);
        CHECK.due(HOUR + 7, "waits at the place on the day after", () -> graph.way(0, 0, 2, DAY));
        CHECK.steps(graph, "and walks no loop then", 2);

        WayGraph other = Graphs.flat(3);
        Graphs.piece(other, 1, 2, 5);
        Graphs.piece(other, 2, 1, 5);
        Graphs.piece(other, 2, 0, 7);
        other.mover(1, 1);
        Graphs.onlyOpenIn(other, 2, 1);
        CHECK.due(HOUR + 7, "waits at place 2", () -> other.way(0, 2, 0, 0));
        CHECK.steps(other, "and walks no loop there", 2);
        CHECK.due(HOUR + 7, "comes to place 2 before the hour", () -> other.way(0, 1, 0, 0));
        CHECK.steps(other, "and waits there", 0, 2);
    }

    private static void leastNumberBefore() {
        WayGraph graph = Graphs.flat(4);
        Graphs.piece(graph, 2, 3, 1);
        Graphs.piece(graph, 0, 1, 4);
        Graphs.piece(graph, 0, 2, 8);
        Graphs.piece(graph, 1, 2, 4);
        graph.mover(1, 1);
        CHECK.due(9, "pieces 2 and 3 come out alike", () -> graph.way(0, 0, 3, 0));
        CHECK.steps(graph, "piece 2 is before", 2, 0);

        WayGraph other = Graphs.flat(4);
        Graphs.piece(other, 2, 3, 1);
        Graphs.piece(other, 0, 1, 4);
        Graphs.piece(other, 1, 2, 4);
        Graphs.piece(other, 0, 2, 8);
        other.mover(1, 1);
        CHECK.due(9, "the same, numbered the other way", () -> other.way(0, 0, 3, 0));
        CHECK.steps(other, "again piece 2 is before", 1, 2, 0);
    }

    private static void endsWhereItBegins() {
        WayGraph graph = Graphs.flat(4);
        Graphs.piece(graph, 0, 1, 5);
        Graphs.piece(graph, 3, 2, 5);
        Graphs.piece(graph, 0, 2, 5);
        Graphs.piece(graph, 2, 3, 7);
        graph.mover(1, 1);
        CHECK.due(12, "piece 0 is reached as early, but ends elsewhere", () -> graph.way(0, 0, 3, 0));
        CHECK.steps(graph, "piece 2 is before", 2, 3);
        Graphs.onlyOpenIn(graph, 3, 1);
        CHECK.due(HOUR + 7, "both come before the door opens", () -> graph.way(0, 0, 3, 0));
        CHECK.steps(graph, "again piece 2 is before", 2, 3);
    }

    private static void turnNotBarredBefore() {
        WayGraph graph = Graphs.flat(3);
        Graphs.piece(graph, 0, 1, 5);
        Graphs.piece(graph, 0, 1, 5);
        Graphs.piece(graph, 1, 2, 1);
        graph.mover(1, 1);
        graph.turn(0, 2, true);
        CHECK.due(6, "the turn from the least number barred", () -> graph.way(0, 0, 2, 0));
        CHECK.steps(graph, "the next number is before", 1, 2);
        graph.turn(0, 2, false);
        graph.way(0, 0, 2, 0);
        CHECK.steps(graph, "barred no more", 0, 2);
    }

    private static void earlyEnoughBefore() {
        WayGraph graph = Graphs.flat(3);
        Graphs.piece(graph, 0, 1, 3601);
        Graphs.piece(graph, 0, 1, 3600);
        Graphs.piece(graph, 0, 1, 5);
        Graphs.piece(graph, 1, 2, 7);
        graph.mover(1, 1);
        Graphs.onlyOpenIn(graph, 3, 1);
        CHECK.due(HOUR + 7, "pieces 1 and 2 come in time", () -> graph.way(0, 0, 2, 0));
        CHECK.steps(graph, "piece 1 has the least number of them", 1, 3);
        CHECK.due(5, "the place between is reached earlier", () -> graph.way(0, 0, 1, 0));
        CHECK.steps(graph, "by piece 2", 2);
    }

    private static void reachedFirst() {
        WayGraph graph = Graphs.flat(2);
        Graphs.piece(graph, 0, 1, 6);
        Graphs.piece(graph, 0, 1, 5);
        Graphs.piece(graph, 0, 1, 7);
        graph.mover(1, 1);
        CHECK.due(5, "the quickest of three", () -> graph.way(0, 0, 1, 0));
        CHECK.steps(graph, "its number", 1);
    }

    private static void leastNumberOfEqual() {
        WayGraph graph = Graphs.flat(3);
        Graphs.piece(graph, 1, 2, 5);
        Graphs.piece(graph, 0, 2, 10);
        Graphs.piece(graph, 0, 1, 5);
        Graphs.piece(graph, 0, 2, 10);
        graph.mover(1, 1);
        CHECK.due(10, "three ways of ten seconds", () -> graph.way(0, 0, 2, 0));
        CHECK.steps(graph, "the one that ends with piece 0", 2, 0);
        graph.closed(0, true);
        CHECK.due(10, "two ways of ten seconds", () -> graph.way(0, 0, 2, 0));
        CHECK.steps(graph, "the one that ends with piece 1", 1);
        graph.closed(1, true);
        CHECK.due(10, "one way of ten seconds", () -> graph.way(0, 0, 2, 0));
        CHECK.steps(graph, "the one that ends with piece 3", 3);
    }

    /** At each of two places on the way two pieces come in time for the next one. */
    private static void beforeEach() {
        WayGraph graph = Graphs.flat(4);
        Graphs.piece(graph, 2, 3, 1);
        Graphs.piece(graph, 1, 2, 9);
        Graphs.piece(graph, 1, 2, 5);
        Graphs.piece(graph, 0, 1, 7);
        Graphs.piece(graph, 0, 1, 3);
        graph.mover(1, 1);
        CHECK.due(9, "without doors", () -> graph.way(0, 0, 3, 0));
        CHECK.steps(graph, "the quick ones", 4, 2, 0);
        Graphs.onlyOpenIn(graph, 0, 2);
        CHECK.due(2 * HOUR + 1, "a door at the end", () -> graph.way(0, 0, 3, 0));
        CHECK.steps(graph, "the slow one before the door, the quick one before that", 4, 1, 0);
        Graphs.onlyOpenIn(graph, 1, 1);
        CHECK.due(2 * HOUR + 1, "a door between too", () -> graph.way(0, 0, 3, 0));
        CHECK.steps(graph, "the slow ones", 3, 1, 0);
        graph.turn(3, 1, true);
        CHECK.due(2 * HOUR + 1, "the turn between them barred", () -> graph.way(0, 0, 3, 0));
        CHECK.steps(graph, "the quick one first", 4, 1, 0);
        graph.turn(4, 1, true);
        CHECK.due(2 * HOUR + 1, "both turns to the slow one barred", () -> graph.way(0, 0, 3, 0));
        CHECK.steps(graph, "the quick ones again", 4, 2, 0);
    }

    private static void toItself() {
        WayGraph graph = Graphs.row(1, 1);
        Graphs.piece(graph, 1, 0, 1);
        graph.way(0, 0, 2, 0);
        CHECK.due(0, "place 0 to itself", () -> graph.way(0, 0, 0, 10000000));
        CHECK.steps(graph, "no steps");
        CHECK.due(0, "place 2, from which no piece leads", () -> graph.way(0, 2, 2, 0));
        CHECK.due(-1, "step(0)", () -> graph.step(0));
    }
}
