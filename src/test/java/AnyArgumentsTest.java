import java.util.ArrayList;
import java.util.Arrays;
import java.util.List;

/** Every call with every mix of numbers from and beyond the edges: none throws, and each answers as the plain model. */
public final class AnyArgumentsTest {
    private static final int LEAST = Integer.MIN_VALUE;
    private static final int MOST = Integer.MAX_VALUE;
    private static final int[] NUMBERS = {
        LEAST, -1, 0, 1, 3, 4, 5, 8, 9, 10, 29, 30, 32, 35, 36, 37, 999, 1000, 1500, 1999, 2000, 1000000, 1000001, MOST};
    /** For copy, whose five numbers make too many mixes: the edges of sheets and of their rows. */
    private static final int[] FEWER_NUMBERS = {LEAST, -1, 0, 1, 3, 4, 35, 36, 37, MOST};
    private static final long[] SETS = {
        0, 1, Due.FIELD, Due.FIELD + 1, -1, Long.MIN_VALUE, Long.MAX_VALUE, 1L << 32, 1L << 35, 1L << 63 | 1};
    private static final int MOST_CALLS = 512;

    private static final Due DUE = new Due();

    private final String[] opening;
    private ShireLines desk;
    private PlainDesk model;
    private int made;

    private AnyArgumentsTest(String[] opening) {
        this.opening = opening;
    }

    public static void main(String[] args) {
        for (String[] opening : List.of(new String[0], Edge.RICH, fullDesk())) {
            for (int name = 0; name < Call.NAMES.size() && !DUE.hasWrong(); name++) {
                new AnyArgumentsTest(opening).everyMix(name);
            }
        }
        desksShareNothing();
        DUE.end();
    }

    /** As many units, acts and counts as there can be, and every map and sheet filled. */
    private static String[] fullDesk() {
        List<String> calls = new ArrayList<>();
        for (int unit = 0; unit < 10; unit++) {
            calls.add("unit(" + (unit == 3 ? 3 : unit % 3) + ")");
        }
        String[] acts = {"found(0, 1000, 0xfffffffff)", "found(1, 1500, 0x3f)", "found(4, 1500, 0xfc0)",
            "move(0, 1, 1500, 0xff0000000)", "join(1, 3, 1500)", "swallow(4, 0, 1999)", "back(3, 1999)",
            "found(4, 1999, 0x0)", "back(5, 1999)", "found(9, 1999, 0x800000000)"};
        for (int act = 0; act < 30; act++) {
            calls.add(acts[act % acts.length]);
        }
        for (int count = 0; count < 20; count++) {
            int[] counted = {0, 1, 4, 9};
            calls.add("count(" + counted[count % 4] + ", " + (count % 3 == 0 ? 1000 : 1500) + ", 999999)");
        }
        for (int four = 0; four < 4; four++) {
            calls.add("sheet(" + four + ", " + (four == 3 ? 8 : 8 << four) + ", 36)");
            calls.add("put(" + four + ", 35, " + (four + 7) + ")");
            calls.add("lay(" + four + ", " + four + ")");
            calls.add("map(" + four + ", " + (1000 + 333 * four) + ")");
        }
        return calls.toArray(new String[0]);
    }

    private void everyMix(int name) {
        int[] numbers = Call.takes(name) > 4 ? FEWER_NUMBERS : NUMBERS;
        int mixes = 1;
        for (int i = 0; i < Call.takes(name); i++) {
            mixes *= numbers.length;
        }
        for (int mix = 0; mix < mixes; mix++) {
            int[] p = new int[Call.takes(name)];
            int rest = mix;
            for (int i = 0; i < p.length; i++) {
                p[i] = numbers[rest % numbers.length];
                rest /= numbers.length;
            }
            for (long set : Call.takesSet(name) ? SETS : new long[1]) {
                make(new Call(name, p, set));
            }
        }
    }

    private void make(Call call) {
        if (desk == null || made == MOST_CALLS) {
            desk = new ShireLines();
            model = new PlainDesk();
            made = opening.length;
            for (String text : opening) {
                Call first = Call.of(text);
                DUE.is("opening: " + first, first.on(desk), first.on(model));
            }
        }
        made++;
        long want = call.on(model);
        try {
            DUE.is(call + " behind " + opening.length + " calls and others like it", call.on(desk), want);
        } catch (RuntimeException thrown) {
            DUE.isTrue(call + " threw " + thrown, false);
        }
    }

    /** Promise 1 holds for each new object, whatever was done with others. */
    private static void desksShareNothing() {
        ShireLines used = new ShireLines();
        ShireLines made = new ShireLines();
        Arrays.stream(fullDesk()).forEach(text -> Call.of(text).on(used));
        for (ShireLines fresh : new ShireLines[] {made, new ShireLines()}) {
            for (int what = 0; what < 5; what++) {
                DUE.is("another desk's told(" + what + ")", fresh.told(what), 0);
            }
            for (int four = 0; four < 4; four++) {
                DUE.is("another desk's read(" + four + ", 0)", fresh.read(four, 0), 1000);
                DUE.is("another desk's read(" + four + ", 1)", fresh.read(four, 1), 0);
                DUE.is("another desk's put(" + four + ", 0, 0)", fresh.put(four, 0, 0), Due.MISSING);
            }
            DUE.is("another desk's who(0, 1999)", fresh.who(0, 1999), 10);
            DUE.is("another desk's unit(0)", fresh.unit(0), 0);
        }
        DUE.is("the used desk's told(1)", used.told(1), 30);
    }
}
