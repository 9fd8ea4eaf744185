/** Compares answers with those that are due, and ends the program with 1 if one was wrong. */
final class Check {

    interface Call {
        long answer();
    }

    private int right;
    private int wrong;

    void due(long want, String name, Call call) {
        note(Long.toString(want), name, outcome(call));
    }

    void yes(String name, boolean got) {
        note("true", name, Boolean.toString(got));
    }

    void no(String name, boolean got) {
        note("false", name, Boolean.toString(got));
    }

    void refuses(Class<? extends RuntimeException> want, String name, Call call) {
        note("throws." + want.getSimpleName(), name, outcome(call));
    }

    void badArgument(String name, Call call) {
        refuses(IllegalArgumentException.class, name, call);
    }

    void badState(String name, Call call) {
        refuses(IllegalStateException.class, name, call);
    }

    void full(String name, Call call) {
        refuses(UnsupportedOperationException.class, name, call);
    }

    /** The pieces that step() tells from 0 on, and that there are no more. */
    void steps(WayGraph graph, String name, int... pieces) {
        StringBuilder got = new StringBuilder();
        for (int i = 0; i < 60 && graph.step(i) != -1; i++) {
            got.append(graph.step(i)).append(' ');
        }
        StringBuilder want = new StringBuilder();
        for (int piece : pieces) {
            want.append(piece).append(' ');
        }
        note(want.toString(), name, got.toString());
    }

    void note(String want, String name, String got) {
        if (want.equals(got)) {
            right++;
        } else {
            wrong++;
            System.out.println(name + " answered " + got + ", due is " + want);
        }
    }

    void finish() {
        System.out.println(right + " answers as due, " + wrong + " not");
        if (wrong != 0 || right == 0) {
            System.exit(1);
        }
    }

    static String outcome(Call call) {
        try {
            return Long.toString(call.answer());
        } catch (RuntimeException e) {
            return "throws." + e.getClass().getSimpleName();
        }
    }
}
