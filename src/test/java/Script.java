import java.util.List;

/** Runs of calls, each run on an object of its own, as lines of text (see Line). */
final class Script {

    /** What the document has an object used for; what later calls answer is free. */
    private static final int MOST_CALLS = 512;

    private final String title;
    private int calls = 0;
    private int wrong = 0;

    Script(String title) {
        this.title = title;
    }

    /** A line for each number from one to another, that stands where the line has a @. */
    static String each(int from, int to, String line) {
        StringBuilder lines = new StringBuilder();
        for (int i = from; i <= to; i++) {
            lines.append(line.replace("@", Integer.toString(i))).append('\n');
        }
        return lines.toString();
    }

    void run(String about, String... parts) {
        runOn(new Bumpherald(), about, parts);
    }

    /** For several objects side by side. */
    void runOn(Bumpherald bot, String about, String... parts) {
        List<Line> lines = Line.all(parts);
        mustFit(about, lines.size());
        for (Line line : lines) {
            due(about, line, line.answerOf(bot));
        }
    }

    /**
     * Calls that are refused, each after the same ones on an object of its own:
     * what is due is thrown, and from then on that object answers as one that
     * was never asked.
     */
    void refused(String about, String before, String... calls) {
        List<Line> first = Line.all(before);
        List<List<Line>> probes = Probes.after(first);
        for (Line line : Line.all(calls)) {
            if (!line.isRefused()) {
                throw new AssertionError(about + ": " + line + " is not refused");
            }
            for (List<Line> probe : probes) {
                mustFit(about, first.size() + 1 + probe.size());
                refusedOnce(about, first, line, probe);
            }
        }
    }

    void end() {
        System.out.println(title + ": " + calls + " calls, " + wrong + " wrong");
        if (wrong != 0 || calls == 0) {
            System.exit(1);
        }
    }

    private void refusedOnce(String about, List<Line> first, Line refused, List<Line> probe) {
        Bumpherald asked = new Bumpherald();
        Bumpherald neverAsked = new Bumpherald();
        for (Line line : first) {
            due(about, line, line.answerOf(asked));
            line.answerOf(neverAsked);
        }
        due(about, refused, refused.answerOf(asked));
        for (Line line : probe) {
            same(about + ", after " + refused, line, line.answerOf(asked), line.answerOf(neverAsked));
        }
    }

    private void due(String about, Line line, String got) {
        same(about, line, got, line.due());
    }

    private void same(String about, Line line, String got, String want) {
        calls++;
        if (!got.equals(want)) {
            wrong++;
            System.out.println(title + ", " + about + ": " + line + " answered " + got + ", due is " + want);
        }
    }

    private static void mustFit(String about, int calls) {
        if (calls > MOST_CALLS) {
            throw new AssertionError(about + ": " + calls + " calls of one object");
        }
    }
}
