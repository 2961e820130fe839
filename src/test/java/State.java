import java.util.ArrayList;
import java.util.Arrays;
import java.util.List;
import java.util.TreeSet;

/**
 * All that can be asked of a desk behind a run of calls. Some questions spoil what they look at, and a desk is good
 * for 512 calls, so each part of the questions is put to a desk of its own.
 */
final class State {
    private static final int MOST_CALLS = 512;
    private static final int YEARS_A_PART = 3;
    private static final List<List<Call>> LASTING_PARTS = lastingParts();

    private final List<Call> run;
    private final List<List<Call>> parts = new ArrayList<>(LASTING_PARTS);
    private final List<long[]> answers = new ArrayList<>();
    private final long findings;

    State(List<Call> run) {
        this.run = List.copyOf(run);
        addYearParts();
        for (List<Call> part : parts) {
            answers.add(answersBehind(part, null));
        }
        findings = answersBehind(List.of(Call.of("told(4)")), null)[0];
    }

    /** What is not as it was when the call is made behind the run, or null. It must be counted as a finding. */
    String changeBy(Call refused) {
        long counted = answersBehind(List.of(Call.of("told(4)")), refused)[0];
        if (counted != findings + 1) {
            return "told(4) went from " + findings + " to " + counted;
        }
        for (int i = 0; i < parts.size(); i++) {
            long[] now = answersBehind(parts.get(i), refused);
            int differs = Arrays.mismatch(answers.get(i), now);
            if (differs >= 0) {
                return parts.get(i).get(differs) + " went from " + answers.get(i)[differs] + " to " + now[differs];
            }
        }
        return null;
    }

    private long[] answersBehind(List<Call> part, Call refused) {
        if (run.size() + 1 + part.size() > MOST_CALLS) {
            throw new IllegalStateException("a desk is good for 512 calls");
        }
        ShireLines desk = new ShireLines();
        for (Call call : run) {
            call.on(desk);
        }
        if (refused != null) {
            refused.on(desk);
        }
        return part.stream().mapToLong(call -> call.on(desk)).toArray();
    }

    private static List<List<Call>> lastingParts() {
        List<List<Call>> parts = new ArrayList<>();
        parts.add(unitsAndActs());
        for (int four = 0; four < 4; four++) {
            parts.add(sizeAndBits(four));
            for (int row = 0; row < 6; row++) {
                parts.add(claims(four, row));
                List<Call> numbers = new ArrayList<>();
                numbers.add(Call.of("lay(3, " + four + ")"));
                numbers.addAll(claims(3, row));
                parts.add(numbers);
            }
        }
        return parts;
    }

    private static List<Call> unitsAndActs() {
        List<Call> part = new ArrayList<>();
        for (int what = 0; what < 4; what++) {
            part.add(Call.of("told(" + what + ")"));
        }
        for (int unit = 0; unit < 10; unit++) {
            for (int kind = 0; kind < 4; kind++) {
                part.add(Call.of("as(" + unit + ", " + kind + ")"));
            }
        }
        for (int act = 0; act < 30; act++) {
            for (int what = 0; what < 5; what++) {
                part.add(Call.of("act(" + act + ", " + what + ")"));
            }
        }
        return part;
    }

    private static List<Call> sizeAndBits(int s) {
        List<Call> part = new ArrayList<>();
        for (int n = 0; n <= 37; n++) {
            part.add(Call.of("copy(" + s + ", 0, " + s + ", 0, " + n + ")"));
        }
        int other = (s + 1) % 4;
        for (int bits = 8; bits <= 32; bits *= 2) {
            part.add(Call.of("sheet(" + other + ", " + bits + ", 1)"));
            part.add(Call.of("copy(" + s + ", 0, " + other + ", 0, 0)"));
        }
        return part;
    }

    /** A map's year and, of each cell of a row, what it claims: another map claims one thing upon the other of it. */
    private static List<Call> claims(int map, int row) {
        List<Call> part = new ArrayList<>();
        int other = (map + 1) % 4;
        for (int what = 0; what < 4; what++) {
            part.add(Call.of("read(" + map + ", " + what + ")"));
        }
        for (int cell = 0; cell < 36; cell++) {
            part.add(Call.of("claim(" + other + ", " + cell + ", -1)"));
        }
        for (int cell = 6 * row; cell < 6 * row + 6; cell++) {
            for (int unit = 0; unit <= 10; unit++) {
                part.add(Call.of("claim(" + other + ", " + cell + ", " + unit + ")"));
                part.add(Call.of("quarrel(" + map + ", " + other + ")"));
            }
            part.add(Call.of("claim(" + other + ", " + cell + ", -1)"));
            part.add(Call.of("claim(" + map + ", " + cell + ", -1)"));
        }
        return part;
    }

    /** The first and the last year, and each year that the run tells with the one ahead of it. */
    private void addYearParts() {
        TreeSet<Integer> years = new TreeSet<>(List.of(1000, 1999));
        for (Call call : run) {
            for (int number : call.numbers()) {
                if (number > 1000 && number <= 1999) {
                    years.add(number - 1);
                    years.add(number);
                }
            }
        }
        List<Call> part = new ArrayList<>();
        for (int year : years) {
            addYear(part, year);
            if (part.size() > YEARS_A_PART * 100) {
                parts.add(part);
                part = new ArrayList<>();
            }
        }
        parts.add(part);
    }

    private static void addYear(List<Call> part, int year) {
        part.add(Call.of("people(" + year + ")"));
        part.add(Call.of("borders(" + year + ")"));
        for (int cell = 0; cell < 36; cell++) {
            part.add(Call.of("who(" + cell + ", " + year + ")"));
        }
        for (int unit = 0; unit < 10; unit++) {
            part.add(Call.of("there(" + unit + ", " + year + ")"));
            part.add(Call.of("cells(" + unit + ", " + year + ")"));
            part.add(Call.of("under(" + unit + ", " + year + ")"));
            for (int to : new int[] {year, 1999}) {
                part.add(Call.of("carried(" + year + ", " + unit + ", " + to + ", false)"));
                part.add(Call.of("carried(" + year + ", " + unit + ", " + to + ", true)"));
            }
        }
    }
}
