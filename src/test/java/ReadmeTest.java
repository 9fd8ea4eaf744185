import java.io.IOException;
import java.nio.file.Files;
import java.nio.file.Path;

/** The example of README.md: each line stands there, and answers what the line tells. */
public final class ReadmeTest {

    private static final Check CHECK = new Check("README.md");
    private static String readme;

    public static void main(String[] args) throws IOException {
        readme = Files.readString(Path.of("README.md"));
        CHECK.sentence("the example", ReadmeTest::example);
        CHECK.sentence("the calls", ReadmeTest::everyCallIsNamed);
        CHECK.finish();
    }

    private static void line(String code) {
        CHECK.yes("in README.md: " + code, readme.contains("\n" + code + "\n"));
    }

    /** A line that ends with its answer, and what may follow on it. */
    private static void line(String code, Object answer, String more) {
        String head = String.format("%-41s// ", code);
        CHECK.yes("in README.md: " + head + answer + more, readme.contains("\n" + head + answer + more + "\n"));
    }

    private static void example() {
        line("WayGraph graph = new WayGraph();");
        WayGraph graph = new WayGraph();
        line("int gate = graph.place(0);");
        int gate = graph.place(0);
        line("int hall = graph.place(0);");
        int hall = graph.place(0);
        line("int loft = graph.place(1);");
        int loft = graph.place(1);
        line("graph.piece(gate, hall, 1001, 100);", graph.piece(gate, hall, 1001, 100),
                ": 1001 long at speed 100, so 11 seconds");
        CHECK.due(11, "its seconds", () -> graph.told(0, 2));
        line("graph.lift(hall, loft, 40);", graph.lift(hall, loft, 40), ": there; 2 is the piece back");
        CHECK.due(loft, "the piece back begins at the loft", () -> graph.told(2, 0));
        line("int cart = graph.mover(500, 1000);");
        int cart = graph.mover(500, 1000);

        line("graph.way(cart, gate, loft, 0);", graph.way(cart, gate, loft, 0), "");
        line("graph.step(0);", graph.step(0), ", the first piece of that way");
        line("graph.step(1);", graph.step(1), "");
        line("graph.step(2);", graph.step(2), ": it has no more");

        line("graph.door(1, 0, false);", graph.door(1, 0, false), " hours: shut from 0:00 to 1:00");
        line("graph.way(cart, gate, loft, 0);", graph.way(cart, gate, loft, 0), ": waits until moment 3600");
        line("graph.k(gate, loft, 0);", graph.k(gate, loft, 0), ": the best of the short ways of mover 0");
        line("graph.reaches(cart, loft, gate);", graph.reaches(cart, loft, gate), ": piece 0 is one way");
    }

    private static void everyCallIsNamed() {
        for (java.lang.reflect.Method method : WayGraph.class.getMethods()) {
            if (method.getDeclaringClass() == WayGraph.class) {
                CHECK.yes("in the table: " + method.getName(), readme.contains("\n| `" + method.getName() + "("));
            }
        }
    }
}
