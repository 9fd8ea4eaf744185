/** Compares answers with those that are due, and ends the program with 1 if one was wrong. */
final class Check {

    interface Call {
        long answer();
    }

    interface Body {
        void run();
    }

    private final String section;
    private String sentence = "";
    private int sentences;
    private int right;
    private int wrong;

    /** The section of the document that is tested. */
    Check(String section) {
        this.section = section;
    }

    /** The test of one sentence of the document; one that compares nothing has failed. */
    void sentence(String words, Body test) {
        sentence = "\"" + words + "\": ";
        sentences++;
        int compared = right + wrong;
        try {
            test.run();
        } catch (RuntimeException e) {
            note("no exception", "a call between the compared ones", thrown(e));
        }
        if (compared == right + wrong) {
            note("something", "compared", "nothing");
        }
        sentence = "";
    }

    void due(long want, String name, Call call) {
        note(Long.toString(want), name, outcome(call));
    }

    void yes(String name, boolean got) {
        note("true", name, Boolean.toString(got));
    }

    void no(String name, boolean got) {
        note("false", name, Boolean.toString(got));
    }

    void refuses(Class<? extends RuntimeException> want, String name, Call call) {
        note("throws." + want.getSimpleName(), name, outcome(call));
    }

    void badArgument(String name, Call call) {
        refuses(IllegalArgumentException.class, name, call);
    }

    void badState(String name, Call call) {
        refuses(IllegalStateException.class, name, call);
    }

    void full(String name, Call call) {
        refuses(UnsupportedOperationException.class, name, call);
    }

    /** All that the object tells of itself is behind the calls what it was before them. */
    void unchanged(WayGraph graph, Body refusedCalls) {
        String before = Graphs.allTold(graph);
        refusedCalls.run();
        note(before, "what is there behind refused calls", Graphs.allTold(graph));
    }

    /** The pieces that step() tells from 0 on, and that there are no more. */
    void steps(WayGraph graph, String name, int... pieces) {
        StringBuilder want = new StringBuilder();
        for (int piece : pieces) {
            want.append(piece).append(' ');
        }
        note(want.toString(), name, Graphs.steps(graph));
    }

    void note(String want, String name, String got) {
        if (want.equals(got)) {
            right++;
        } else {
            wrong++;
            System.out.println(section + ": " + sentence + name + " answered " + got + ", due is " + want);
        }
    }

    void finish() {
        System.out.println(section + ": " + sentences + " sentences, " + right + " answers as due, " + wrong + " not");
        if (wrong != 0 || right == 0) {
            System.exit(1);
        }
    }

    static String outcome(Call call) {
        try {
            return Long.toString(call.answer());
        } catch (RuntimeException e) {
            return thrown(e);
        }
    }

    private static String thrown(RuntimeException e) {
        return "throws." + e.getClass().getSimpleName();
    }
}
