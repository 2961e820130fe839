import java.util.Arrays;
import java.util.List;

/** A call as data, so that it can be made on several desks: told as text, like "found(0, 1100, 0x7)". */
final class Call {
    static final List<String> NAMES = List.of(
        "unit", "as", "found", "move", "swallow", "back", "join", "act", "untell", "who", "there", "cells", "shape",
        "under", "led", "borders", "changes", "map", "claim", "read", "best", "quarrel", "count", "carried", "people",
        "sheet", "put", "copy", "lay", "told");
    /** How many numbers each call takes, the set of cells not counted. */
    private static final int[] TAKES = {
        1, 2, 2, 3, 3, 2, 3, 2, 0, 2, 2, 2, 3, 2, 3, 1, 2, 2, 3, 2, 3, 2, 3, 4, 1, 3, 3, 5, 2, 1};
    private static final int FOUND = 2;
    private static final int MOVE = 3;

    private final int name;
    private final int[] p;
    private final long cells;

    /** A call by its place in the document's face; the set of cells is taken by found and move alone. */
    Call(int name, int[] numbers, long cells) {
        if (numbers.length != TAKES[name]) {
            throw new IllegalArgumentException(NAMES.get(name) + " takes " + TAKES[name] + " numbers");
        }
        this.name = name;
        this.p = numbers;
        this.cells = cells;
    }

    static Call of(String text) {
        int open = text.indexOf('(');
        int name = NAMES.indexOf(text.substring(0, open));
        String inside = text.substring(open + 1, text.length() - 1);
        long[] told = inside.isEmpty() ? new long[0]
            : Arrays.stream(inside.split(", ")).mapToLong(Call::numberOf).toArray();
        boolean hasSet = takesSet(name);
        int[] numbers = Arrays.stream(told).limit(told.length - (hasSet ? 1 : 0)).mapToInt(Math::toIntExact).toArray();
        return new Call(name, numbers, hasSet ? told[told.length - 1] : 0);
    }

    private static long numberOf(String word) {
        return word.equals("true") ? 1 : word.equals("false") ? 0 : Long.decode(word);
    }

    /** How many numbers the call takes, the set of cells not counted. */
    static int takes(int name) {
        return TAKES[name];
    }

    static boolean takesSet(int name) {
        return name == FOUND || name == MOVE;
    }

    /** The numbers that the call is made with. */
    int[] numbers() {
        return p.clone();
    }

    @Override
    public String toString() {
        String numbers = Arrays.toString(p);
        String set = takesSet(name) ? ", 0x" + Long.toHexString(cells) : "";
        return NAMES.get(name) + "(" + numbers.substring(1, numbers.length() - 1) + set + ")";
    }

    long on(PlainDesk model) {
        return model.call(name, p, cells);
    }

    long on(ShireLines desk) {
        switch (name) {
            case 0: return desk.unit(p[0]);
            case 1: return desk.as(p[0], p[1]);
            case 2: return desk.found(p[0], p[1], cells);
            case 3: return desk.move(p[0], p[1], p[2], cells);
            case 4: return desk.swallow(p[0], p[1], p[2]);
            case 5: return desk.back(p[0], p[1]);
            case 6: return desk.join(p[0], p[1], p[2]);
            case 7: return desk.act(p[0], p[1]);
            case 8: return desk.untell();
            case 9: return desk.who(p[0], p[1]);
            case 10: return desk.there(p[0], p[1]);
            case 11: return desk.cells(p[0], p[1]);
            case 12: return desk.shape(p[0], p[1], p[2]);
            case 13: return desk.under(p[0], p[1]);
            case 14: return desk.led(p[0], p[1], p[2]);
            case 15: return desk.borders(p[0]);
            default: return onMore(desk);
        }
    }

    private long onMore(ShireLines desk) {
        switch (name) {
            case 16: return desk.changes(p[0], p[1]);
            case 17: return desk.map(p[0], p[1]);
            case 18: return desk.claim(p[0], p[1], p[2]);
            case 19: return desk.read(p[0], p[1]);
            case 20: return desk.best(p[0], p[1], p[2]);
            case 21: return desk.quarrel(p[0], p[1]);
            case 22: return desk.count(p[0], p[1], p[2]);
            case 23: return desk.carried(p[0], p[1], p[2], p[3] != 0);
            case 24: return desk.people(p[0]);
            case 25: return desk.sheet(p[0], p[1], p[2]);
            case 26: return desk.put(p[0], p[1], p[2]);
            case 27: return desk.copy(p[0], p[1], p[2], p[3], p[4]);
            case 28: return desk.lay(p[0], p[1]);
            default: return desk.told(p[0]);
        }
    }
}
