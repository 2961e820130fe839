import java.math.BigInteger;
import java.util.ArrayList;
import java.util.Arrays;
import java.util.Comparator;
import java.util.HashMap;
import java.util.List;
import java.util.Map;
import java.util.TreeSet;

/** The document in the plainest words: every question does all acts anew, cell by cell and year by year. */
final class PlainDesk {
    /** Ends a call with a finding. */
    static final class Finding extends RuntimeException {
        private static final long serialVersionUID = 1L;
        final long code;

        Finding(long code) {
            this.code = code;
        }
    }

    private static final class Told {
        int number;
        int kind;
        int a;
        int b;
        int year;
        long cells;
        boolean done;
        int[] before;
        int[] after;

        int came() {
            int came = 0;
            for (int cell = 0; cell < 36; cell++) {
                came += before[cell] != after[cell] ? 1 : 0;
            }
            return came;
        }
    }

    private record Census(int unit, int year, int people) { }

    private static final class World {
        int[] holder = new int[36];
        TreeSet<Integer> there = new TreeSet<>();
        Map<Integer, Integer> under = new HashMap<>();

        World() {
            Arrays.fill(holder, 10);
        }
    }

    private final List<Integer> kinds = new ArrayList<>();
    private final List<Told> acts = new ArrayList<>();
    private final List<Census> counts = new ArrayList<>();
    private final int[] mapYears = {1000, 1000, 1000, 1000};
    private final List<Map<Integer, Integer>> maps = new ArrayList<>();
    private final int[][] sheets = new int[4][];
    private final int[] sheetBits = new int[4];
    private long findings;
    private World[] worlds;

    PlainDesk() {
        for (int i = 0; i < 4; i++) {
            maps.add(new HashMap<>());
        }
    }

    /** Does the call of that number (in the order of the document) with these arguments. */
    long call(int call, int[] p, long cells) {
        try {
            return call < 9 ? unitsActs(call, p, cells) : call < 17 ? atAYear(call, p) : others(call, p);
        } catch (Finding finding) {
            findings++;
            return finding.code;
        }
    }

    private long unitsActs(int call, int[] p, long cells) {
        switch (call) {
            case 0: return unit(p[0]);
            case 1: return as(p[0], p[1]);
            case 2: return found(p[0], p[1], cells);
            case 3: return move(p[0], p[1], p[2], cells);
            case 4: return swallow(p[0], p[1], p[2]);
            case 5: return back(p[0], p[1]);
            case 6: return join(p[0], p[1], p[2]);
            case 7: return act(p[0], p[1]);
            default: return untell();
        }
    }

    private long atAYear(int call, int[] p) {
        switch (call) {
            case 9: return who(p[0], p[1]);
            case 10: return there(p[0], p[1]);
            case 11: return cells(p[0], p[1]);
            case 12: return shape(p[0], p[1], p[2]);
            case 13: return under(p[0], p[1]);
            case 14: return led(p[0], p[1], p[2]);
            case 15: return borders(p[0]);
            default: return changes(p[0], p[1]);
        }
    }

    private long others(int call, int[] p) {
        switch (call) {
            case 17: return map(p[0], p[1]);
            case 18: return claim(p[0], p[1], p[2]);
            case 19: return read(p[0], p[1]);
            case 20: return best(p[0], p[1], p[2]);
            case 21: return quarrel(p[0], p[1]);
            case 22: return count(p[0], p[1], p[2]);
            case 23: return carried(p[0], p[1], p[2], p[3] != 0);
            case 24: return people(p[0]);
            case 25: return sheet(p[0], p[1], p[2]);
            case 26: return put(p[0], p[1], p[2]);
            case 27: return copy(p[0], p[1], p[2], p[3], p[4]);
            case 28: return lay(p[0], p[1]);
            default: return told(p[0]);
        }
    }

    private static void ask(boolean fine, long code) {
        if (!fine) {
            throw new Finding(code);
        }
    }

    private static boolean in(int value, int low, int high) {
        return low <= value && value <= high;
    }

    private static void askYear(int year) {
        ask(in(year, 1000, 1999), Due.BEYOND);
    }

    private void askUnit(int unit) {
        ask(in(unit, 0, kinds.size() - 1), Due.BEYOND);
    }

    private static void askCell(int cell) {
        ask(in(cell, 0, 35), Due.BEYOND);
    }

    private static void askFour(int number) {
        ask(in(number, 0, 3), Due.BEYOND);
    }

    private static void askSet(long cells) {
        ask(cells >= 0 && cells < 1L << 36, Due.BEYOND);
    }

    private boolean isHundred(int unit) {
        return kinds.get(unit) == 3;
    }

    private long unit(int kind) {
        askFour(kind);
        ask(kinds.size() < 10, Due.FULL);
        kinds.add(kind);
        return kinds.size() - 1;
    }

    private long as(int unit, int kind) {
        askUnit(unit);
        askFour(kind);
        int own = kinds.get(unit);
        ask(own == kind || kind == 0 || own == 2 && kind == 1, Due.KIND);
        return unit;
    }

    private long tell(int kind, int a, int b, int year, long cells) {
        ask(acts.size() < 30, Due.FULL);
        Told told = new Told();
        told.number = acts.size();
        told.kind = kind;
        told.a = a;
        told.b = b;
        told.year = year;
        told.cells = cells;
        acts.add(told);
        worlds = null;
        return told.number;
    }

    private long found(int unit, int year, long cells) {
        askUnit(unit);
        askYear(year);
        askSet(cells);
        ask(!isHundred(unit), Due.KIND);
        return tell(0, unit, -1, year, cells);
    }

    private void askPair(int from, int to, int year, long cells) {
        askUnit(from);
        askUnit(to);
        askYear(year);
        askSet(cells);
        ask(!isHundred(from) && !isHundred(to), Due.KIND);
        ask(from != to, Due.SIZE);
    }

    private long move(int from, int to, int year, long cells) {
        askPair(from, to, year, cells);
        return tell(1, from, to, year, cells);
    }

    private long swallow(int unit, int by, int year) {
        askPair(unit, by, year, 0);
        return tell(2, unit, by, year, 0);
    }

    private long back(int act, int year) {
        ask(in(act, 0, acts.size() - 1), Due.BEYOND);
        askYear(year);
        ask(year >= acts.get(act).year, Due.BEYOND);
        ask(acts.get(act).kind <= 2, Due.KIND);
        return tell(3, act, -1, year, 0);
    }

    private long join(int unit, int hundred, int year) {
        askUnit(unit);
        askUnit(hundred);
        askYear(year);
        ask(!isHundred(unit) && isHundred(hundred), Due.KIND);
        return tell(4, unit, hundred, year, 0);
    }

    private List<Told> inOrder() {
        List<Told> order = new ArrayList<>(acts);
        order.sort(Comparator.<Told>comparingInt(t -> t.year).thenComparingInt(t -> t.number));
        return order;
    }

    private World at(int year) {
        if (worlds == null) {
            worlds = new World[1001];
            World world = new World();
            List<Told> order = inOrder();
            int next = 0;
            for (int i = 0; i <= 1000; i++) {
                while (next < order.size() && order.get(next).year <= 999 + i) {
                    perform(order.get(next++), world);
                }
                worlds[i] = new World();
                worlds[i].holder = world.holder.clone();
                worlds[i].there = new TreeSet<>(world.there);
                worlds[i].under = new HashMap<>(world.under);
            }
        }
        return worlds[year - 999];
    }

    private void perform(Told told, World world) {
        told.before = world.holder.clone();
        told.done = false;
        boolean aThere = world.there.contains(told.a);
        boolean bThere = world.there.contains(told.b);
        if (told.kind == 0 && !aThere) {
            told.done = true;
            world.there.add(told.a);
            for (int cell = 0; cell < 36; cell++) {
                if ((told.cells >> cell) % 2 == 1) {
                    world.holder[cell] = told.a;
                }
            }
        } else if (told.kind == 1 && aThere && bThere) {
            for (int cell = 0; cell < 36; cell++) {
                if ((told.cells >> cell) % 2 == 1 && world.holder[cell] == told.a) {
                    world.holder[cell] = told.b;
                    told.done = true;
                }
            }
        } else if (told.kind == 2 && aThere && bThere && kinds.get(told.a) != 2) {
            told.done = true;
            for (int cell = 0; cell < 36; cell++) {
                if (world.holder[cell] == told.a) {
                    world.holder[cell] = told.b;
                }
            }
            world.there.remove(told.a);
            world.under.remove(told.a);
        } else if (told.kind == 3) {
            Told turned = acts.get(told.a);
            for (int cell = 0; cell < 36; cell++) {
                int former = turned.before[cell];
                boolean changed = former != turned.after[cell];
                boolean still = world.holder[cell] == turned.after[cell];
                if (changed && still && (former == 10 || world.there.contains(former))) {
                    world.holder[cell] = former;
                    told.done = true;
                }
            }
        } else if (told.kind == 4 && aThere) {
            told.done = true;
            world.under.put(told.a, told.b);
        }
        told.after = world.holder.clone();
    }

    private long act(int act, int what) {
        ask(in(act, 0, acts.size() - 1), Due.BEYOND);
        ask(in(what, 0, 4), Due.BEYOND);
        at(1999);
        Told told = acts.get(act);
        long[] answers = {told.kind, told.year, told.done ? 0 : 1, told.came(), inOrder().indexOf(told)};
        return answers[what];
    }

    private long untell() {
        ask(!acts.isEmpty(), Due.NONE);
        acts.remove(acts.size() - 1);
        worlds = null;
        return acts.size();
    }

    private long who(int cell, int year) {
        askCell(cell);
        askYear(year);
        return at(year).holder[cell];
    }

    private long there(int unit, int year) {
        askUnit(unit);
        askYear(year);
        return isHundred(unit) || at(year).there.contains(unit) ? 1 : 0;
    }

    private boolean holds(int unit, int cell, int year) {
        World world = at(year);
        int holder = world.holder[cell];
        return isHundred(unit) ? world.under.getOrDefault(holder, -1) == unit : holder == unit;
    }

    private long setOf(int unit, int year) {
        long set = 0;
        for (int cell = 0; cell < 36; cell++) {
            set += holds(unit, cell, year) ? 1L << cell : 0;
        }
        return set;
    }

    private long cells(int unit, int year) {
        askUnit(unit);
        askYear(year);
        return setOf(unit, year);
    }

    /** Of a cell the four beside it, -1 for the field's edge. */
    private static int[] beside(int cell) {
        int row = cell / 6;
        int column = cell % 6;
        return new int[] {
            row > 0 ? cell - 6 : -1, row < 5 ? cell + 6 : -1, column > 0 ? cell - 1 : -1, column < 5 ? cell + 1 : -1};
    }

    private long shape(int unit, int year, int what) {
        askUnit(unit);
        askYear(year);
        ask(in(what, 0, 2), Due.BEYOND);
        int area = 0;
        int sides = 0;
        int pieces = 0;
        boolean[] seen = new boolean[36];
        for (int cell = 0; cell < 36; cell++) {
            if (holds(unit, cell, year)) {
                area++;
                for (int next : beside(cell)) {
                    sides += next < 0 || !holds(unit, next, year) ? 1 : 0;
                }
                pieces += seen[cell] ? 0 : 1;
                walk(unit, cell, year, seen);
            }
        }
        return new long[] {area, pieces, sides}[what];
    }

    private void walk(int unit, int cell, int year, boolean[] seen) {
        if (cell >= 0 && !seen[cell] && holds(unit, cell, year)) {
            seen[cell] = true;
            for (int next : beside(cell)) {
                walk(unit, next, year, seen);
            }
        }
    }

    private long under(int unit, int year) {
        askUnit(unit);
        askYear(year);
        ask(!isHundred(unit), Due.KIND);
        ask(at(year).under.containsKey(unit), Due.NONE);
        return at(year).under.get(unit);
    }

    private static boolean areBeside(int cell, int other) {
        return Arrays.stream(beside(cell)).anyMatch(next -> next == other);
    }

    private long led(int cell, int other, int year) {
        askCell(cell);
        askCell(other);
        askYear(year);
        ask(areBeside(cell, other), Due.SIZE);
        ask(at(year).holder[cell] != at(year).holder[other], Due.NONE);
        long latest = -1;
        for (Told told : inOrder()) {
            if (told.year <= year && told.before[cell] == told.before[other] && told.after[cell] != told.after[other]) {
                latest = told.number;
            }
        }
        return latest;
    }

    private long borders(int year) {
        askYear(year);
        int borders = 0;
        for (int cell = 0; cell < 36; cell++) {
            for (int other = cell + 1; other < 36; other++) {
                borders += areBeside(cell, other) && at(year).holder[cell] != at(year).holder[other] ? 1 : 0;
            }
        }
        return borders;
    }

    private long changes(int unit, int year) {
        askUnit(unit);
        askYear(year);
        for (int y = year; y <= 1999; y++) {
            if (setOf(unit, y) != (y == 1000 ? 0 : setOf(unit, y - 1))) {
                return y;
            }
        }
        throw new Finding(Due.NONE);
    }

    private long map(int map, int year) {
        askFour(map);
        askYear(year);
        int former = mapYears[map];
        mapYears[map] = year;
        return former;
    }

    private long claim(int map, int cell, int unit) {
        askFour(map);
        askCell(cell);
        if (unit != 10 && unit != -1) {
            askUnit(unit);
            ask(!isHundred(unit), Due.KIND);
        }
        Integer former = unit == -1 ? maps.get(map).remove(cell) : maps.get(map).put(cell, unit);
        return former == null ? 0 : 1;
    }

    private long agreement(int map, int year) {
        return maps.get(map).entrySet().stream().filter(e -> at(year).holder[e.getKey()] == e.getValue()).count();
    }

    private long read(int map, int what) {
        askFour(map);
        askFour(what);
        int year = mapYears[map];
        long wrong = maps.get(map).entrySet().stream()
            .filter(e -> at(year).holder[e.getKey()] != e.getValue()).mapToInt(Map.Entry::getKey).min().orElse(36);
        return new long[] {year, maps.get(map).size(), agreement(map, year), wrong}[what];
    }

    private long best(int map, int from, int to) {
        askFour(map);
        askYear(from);
        askYear(to);
        ask(from <= to, Due.BEYOND);
        int best = from;
        for (int year = from; year <= to; year++) {
            best = agreement(map, year) > agreement(map, best) ? year : best;
        }
        return best;
    }

    private long quarrel(int map, int other) {
        askFour(map);
        askFour(other);
        for (int cell = 0; cell < 36; cell++) {
            Integer one = maps.get(map).get(cell);
            Integer two = maps.get(other).get(cell);
            if (one != null && two != null && one.intValue() != two.intValue()) {
                return cell;
            }
        }
        throw new Finding(Due.NONE);
    }

    private long count(int unit, int year, int people) {
        askUnit(unit);
        askYear(year);
        ask(in(people, 0, 1000000), Due.BEYOND);
        ask(!isHundred(unit), Due.KIND);
        ask(counts.size() < 20, Due.FULL);
        counts.add(new Census(unit, year, people));
        return counts.size();
    }

    private Map<Integer, Integer> latestOf(int year) {
        Map<Integer, Integer> latest = new HashMap<>();
        for (Census census : counts) {
            if (census.year() == year) {
                latest.put(census.unit(), census.people());
            }
        }
        return latest;
    }

    private long carried(int year, int unit, int to, boolean below) {
        askYear(year);
        askUnit(unit);
        askYear(to);
        BigInteger above = BigInteger.ZERO;
        BigInteger line = BigInteger.ONE;
        for (Map.Entry<Integer, Integer> entry : latestOf(year).entrySet()) {
            long all = setOf(entry.getKey(), year);
            BigInteger area = BigInteger.valueOf(Long.bitCount(all));
            if (all != 0) {
                BigInteger part = BigInteger.valueOf(Long.bitCount(all & setOf(unit, to)));
                above = above.multiply(area).add(part.multiply(BigInteger.valueOf(entry.getValue())).multiply(line));
                line = line.multiply(area);
            }
        }
        BigInteger common = above.gcd(line);
        return (below ? line : above).divide(common).longValueExact();
    }

    private long people(int year) {
        askYear(year);
        return latestOf(year).values().stream().mapToLong(Integer::longValue).sum();
    }

    private long sheet(int s, int bits, int n) {
        askFour(s);
        ask(bits == 0 || bits == 8 || bits == 16 || bits == 32, Due.BEYOND);
        ask(n >= 0, Due.SIZE);
        ask(n <= 36, Due.BEYOND);
        sheets[s] = bits == 0 ? null : new int[n];
        sheetBits[s] = bits;
        return bits == 0 ? 0 : n;
    }

    private long put(int s, int i, int v) {
        askFour(s);
        ask(sheets[s] != null, Due.MISSING);
        ask(in(i, 0, sheets[s].length - 1), Due.BEYOND);
        sheets[s][i] = sheetBits[s] == 8 ? (byte) v : sheetBits[s] == 16 ? (short) v : v;
        return 0;
    }

    private long copy(int s, int from, int t, int to, int n) {
        askFour(s);
        askFour(t);
        ask(sheets[s] != null && sheets[t] != null, Due.MISSING);
        ask(sheetBits[s] == sheetBits[t], Due.KIND);
        ask(from >= 0 && to >= 0 && n >= 0, Due.BEYOND);
        ask((long) from + n <= sheets[s].length && (long) to + n <= sheets[t].length, Due.BEYOND);
        int[] taken = Arrays.copyOfRange(sheets[s], from, from + n);
        for (int i = 0; i < n; i++) {
            sheets[t][to + i] = taken[i];
        }
        return n;
    }

    private long lay(int map, int s) {
        askFour(map);
        askFour(s);
        ask(sheets[s] != null, Due.MISSING);
        maps.get(map).clear();
        for (int cell = 0; cell < sheets[s].length; cell++) {
            int number = sheets[s][cell];
            if (number == 10 || in(number, 0, kinds.size() - 1) && !isHundred(number)) {
                maps.get(map).put(cell, number);
            }
        }
        return maps.get(map).size();
    }

    private long told(int what) {
        ask(in(what, 0, 4), Due.BEYOND);
        at(1999);
        long voids = acts.stream().filter(told -> !told.done).count();
        return new long[] {kinds.size(), acts.size(), voids, counts.size(), findings}[what];
    }
}
