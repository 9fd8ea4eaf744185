import java.util.Random;

/** Runs of 512 calls, drawn with fixed seeds, on the class and on its slow twin alike. */
public final class AgainstSlowTest {

    private static final int RUNS = 1500;
    private static final int CALLS = 512;

    private final Check check;
    private final Random random;
    private final WayGraph graph = new WayGraph();
    private final SlowWayGraph slow = new SlowWayGraph();
    private final int places;
    private final int levels;
    private final int building;
    private final int longest;
    private final boolean doors;
    private int calls;

    private AgainstSlowTest(Check check, long seed) {
        this.check = check;
        random = new Random(seed);
        places = 2 + random.nextInt(random.nextInt(4) == 0 ? 21 : 6);
        levels = 1 + random.nextInt(2);
        building = 20 + random.nextInt(120);
        longest = random.nextInt(3) == 0 ? 9000 : 4;
        doors = random.nextBoolean();
    }

    public static void main(String[] args) {
        Check check = new Check("Against the slow twin");
        for (int run = 0; run < RUNS; run++) {
            AgainstSlowTest test = new AgainstSlowTest(check, run);
            while (test.calls < CALLS) {
                test.callOne("run " + run + ", call " + test.calls + ": ", test.calls);
            }
        }
        check.finish();
    }

    private void alike(String name, Check.Call got, Check.Call want) {
        if (calls < CALLS) {
            calls++;
            check.note(Check.outcome(want), name, Check.outcome(got));
        }
    }

    /** Mostly 0 .. size - 1, at times just outside or far off. */
    private int near(int size) {
        int kind = random.nextInt(60);
        if (kind == 0) {
            return -1;
        }
        if (kind == 1) {
            return size;
        }
        if (kind == 2) {
            return random.nextInt();
        }
        return random.nextInt(Math.max(1, size));
    }

    private long rarely(long usual, long... odd) {
        return random.nextInt(40) == 0 ? odd[random.nextInt(odd.length)] : usual;
    }

    private int place() {
        return near(slow.count(0));
    }

    private int piece() {
        return near(slow.count(1));
    }

    private long moment() {
        switch (random.nextInt(4)) {
            case 0:
                return 0;
            case 1:
                return 3600L * random.nextInt(50) - random.nextInt(12);
            case 2:
                return random.nextInt(10000001);
            default:
                return rarely(random.nextInt(90000), -1, 10000000, 10000001, Long.MIN_VALUE);
        }
    }

    private void callOne(String at, int call) {
        if (call < places || random.nextInt(80) == 0) {
            addPlace(at);
        } else if (call < building) {
            build(at);
        } else {
            switch (random.nextInt(12)) {
                case 0:
                    build(at);
                    break;
                case 1:
                case 2:
                case 3:
                    change(at);
                    break;
                default:
                    ask(at);
            }
        }
    }

    private void addPlace(String at) {
        int level = (int) rarely(random.nextInt(levels), -1, 10, 9);
        alike(at + "place(" + level + ")", () -> graph.place(level), () -> slow.place(level));
    }

    private void build(String at) {
        int a = place();
        int b = place();
        switch (random.nextInt(8)) {
            case 0:
                int width = (int) rarely(1 + random.nextInt(3), 0, 2000, 2001, 10000, 10001);
                long height = rarely(1 + random.nextInt(3), 0, 3000, 3001, 10000, 10001);
                alike(at + "mover(" + width + ", " + height + ")",
                        () -> graph.mover(width, height), () -> slow.mover(width, height));
                break;
            case 1:
                long seconds = rarely(1 + random.nextInt(4), 0, 10000, 10001);
                alike(at + "lift(" + a + ", " + b + ", " + seconds + ")",
                        () -> graph.lift(a, b, seconds), () -> slow.lift(a, b, seconds));
                break;
            case 2:
                int place = place();
                alike(at + "mark(" + place + ")", () -> graph.mark(place), () -> slow.mark(place));
                break;
            default:
                long length = rarely(1 + random.nextInt(longest), 0, 10000000, 10000001);
                long speed = rarely(1 + random.nextInt(2), -1, 0, 10000, 10001);
                alike(at + "piece(" + a + ", " + b + ", " + length + ", " + speed + ")",
                        () -> graph.piece(a, b, length, speed), () -> slow.piece(a, b, length, speed));
        }
    }

    private void change(String at) {
        int piece = piece();
        boolean on = random.nextInt(3) != 0;
        switch (doors ? random.nextInt(7) : random.nextInt(4)) {
            case 0:
                boolean shut = !on;
                alike(at + "closed(" + piece + ", " + shut + ")",
                        () -> graph.closed(piece, shut), () -> slow.closed(piece, shut));
                break;
            case 1:
                int width = (int) rarely(1 + random.nextInt(3), 0, 2000, 10000, 10001);
                long height = rarely(1 + random.nextInt(3), 0, 3000, 10000, 10001);
                alike(at + "limit(" + piece + ", " + width + ", " + height + ")", () -> {
                    graph.limit(piece, width, height);
                    return 0;
                }, () -> {
                    slow.limit(piece, width, height);
                    return 0;
                });
                break;
            case 2:
            case 3:
                int to = piece();
                alike(at + "turn(" + piece + ", " + to + ", " + on + ")",
                        () -> graph.turn(piece, to, on), () -> slow.turn(piece, to, on));
                break;
            default:
                int hour = random.nextBoolean() ? near(24) : near(3);
                alike(at + "door(" + piece + ", " + hour + ", " + !on + ")",
                        () -> graph.door(piece, hour, !on), () -> slow.door(piece, hour, !on));
        }
    }

    private void ask(String at) {
        int a = place();
        int b = place();
        int mover = near(slow.count(2));
        switch (random.nextInt(8)) {
            case 0:
            case 1:
                long t = moment();
                alike(at + "way(" + mover + ", " + a + ", " + b + ", " + t + ")",
                        () -> graph.way(mover, a, b, t), () -> slow.way(mover, a, b, t));
                allSteps(at);
                break;
            case 2:
            case 3:
                int n = near(5);
                alike(at + "k(" + a + ", " + b + ", " + n + ")",
                        () -> graph.k(a, b, n), () -> slow.k(a, b, n));
                allSteps(at);
                break;
            case 4:
                alike(at + "reaches(" + mover + ", " + a + ", " + b + ")",
                        () -> graph.reaches(mover, a, b) ? 1 : 0, () -> slow.reaches(mover, a, b) ? 1 : 0);
                break;
            case 5:
                int i = near(slow.count(3));
                int j = near(slow.count(3));
                alike(at + "table(" + i + ", " + j + ")", () -> graph.table(i, j), () -> slow.table(i, j));
                break;
            case 6:
                int piece = piece();
                int what = near(7);
                alike(at + "told(" + piece + ", " + what + ")",
                        () -> graph.told(piece, what), () -> slow.told(piece, what));
                break;
            default:
                int asked = near(5);
                alike(at + "count(" + asked + ")", () -> graph.count(asked), () -> slow.count(asked));
                int index = near(5);
                alike(at + "step(" + index + ")", () -> graph.step(index), () -> slow.step(index));
        }
    }

    private void allSteps(String at) {
        for (int i = 0; i == 0 || slow.step(i - 1) >= 0; i++) {
            int index = i;
            alike(at + "step(" + i + ")", () -> graph.step(index), () -> slow.step(index));
        }
    }
}
