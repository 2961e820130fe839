import java.util.ArrayList;
import java.util.List;

/**
 * One sentence of the document, held by one run of calls on a new desk: calls that are taken, and calls that are
 * refused and must leave the desk as it was. The plain model is asked the same.
 */
final class Edge {
    /** A desk on which something stands everywhere: units 0 to 5, acts 0 to 6, maps 0 and 1, sheets 0 to 2. */
    static final String[] RICH = {
        "unit(0)", "unit(1)", "unit(2)", "unit(3)", "unit(0)", "unit(3)",
        "found(0, 1100, 0x3f)", "found(1, 1100, 0xfc0)", "found(2, 1150, 0x41)", "move(0, 1, 1200, 0x6)",
        "join(1, 3, 1250)", "swallow(0, 4, 1260)", "back(3, 1300)",
        "map(0, 1200)", "map(1, 1100)", "claim(0, 0, 2)", "claim(0, 1, 0)", "claim(0, 35, 10)", "claim(1, 1, 1)",
        "count(0, 1100, 60)", "count(1, 1200, 1000000)", "count(2, 1200, 0)",
        "sheet(0, 8, 4)", "put(0, 0, 10)", "put(0, 1, 4)", "put(0, 3, 255)",
        "sheet(1, 16, 36)", "put(1, 35, 1)", "sheet(2, 32, 0)",
    };
    /** One unit of each kind (the unit's number is the kind), and nothing else. */
    static final String[] KINDS = {"unit(0)", "unit(1)", "unit(2)", "unit(3)"};

    static final int LEAST = Integer.MIN_VALUE;
    static final int MOST = Integer.MAX_VALUE;
    static final int[] NO_YEARS = {999, 2000, -1, 0, LEAST, MOST};
    static final int[] NO_CELLS = {-1, 36, LEAST, MOST};
    /** No units of the rich desk. */
    static final int[] NO_UNITS = {-1, 6, 9, 10, LEAST, MOST};
    /** No acts of the rich desk. */
    static final int[] NO_ACTS = {-1, 7, 29, 30, LEAST, MOST};
    /** Neither maps nor sheets. */
    static final int[] NO_FOUR = {-1, 4, LEAST, MOST};

    private static final long LOW = -1000000000000000000L;
    private static final int MOST_CALLS = 512;

    private final Due due;
    private final String sentence;
    private final List<Call> run = new ArrayList<>();
    private final ShireLines desk = new ShireLines();
    private final PlainDesk model = new PlainDesk();
    private int made;
    private State state;

    Edge(Due due, String sentence, String... opening) {
        this.due = due;
        this.sentence = sentence;
        done(opening);
    }

    /** Calls that lead to the edge; none of them is refused. */
    Edge done(String... calls) {
        for (String text : calls) {
            Call call = Call.of(text);
            due.isTrue(label(call) + " is taken on the way", make(call) > LOW);
            keep(call);
        }
        return this;
    }

    /** A call with the answer that is due; it stays in the run. */
    Edge taken(String text, long want) {
        Call call = Call.of(text);
        due.is(label(call), make(call), want);
        keep(call);
        return this;
    }

    /** What is carried, above and below the line. */
    Edge fraction(int year, int unit, int to, long above, long below) {
        String call = "carried(" + year + ", " + unit + ", " + to;
        return taken(call + ", false)", above).taken(call + ", true)", below);
    }

    /** A call that must answer the finding and change nothing but the number of findings. */
    Edge refused(String text, long finding) {
        Call call = Call.of(text);
        due.is(label(call), make(call), finding);
        if (state == null) {
            state = new State(run);
        }
        String change = state.changeBy(call);
        due.isTrue(label(call) + " changes nothing, but " + change, change == null);
        return this;
    }

    private String label(Call call) {
        return "\"" + sentence + "\": " + call;
    }

    private void keep(Call call) {
        run.add(call);
        state = null;
    }

    private long make(Call call) {
        made++;
        if (made > MOST_CALLS) {
            throw new IllegalStateException("a desk is good for 512 calls");
        }
        long answer = call.on(desk);
        due.is(label(call) + " as in the plain model", answer, call.on(model));
        return answer;
    }
}
