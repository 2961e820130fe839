import java.util.Arrays;
import java.util.Random;

/** Random runs of calls: each answer must be that of the plain model. */
public final class ModelTest {
    private static final int RUNS = 400;
    private static final int CALLS = 511;
    /** How often each call is made, beside the others. */
    private static final int[] OFTEN = {
        4, 2, 12, 14, 6, 8, 8, 14, 4, 6, 4, 6, 6, 4, 8, 3, 6, 2, 10, 8, 5, 3, 8, 8, 2, 2, 6, 3, 2, 8};

    private static final Due DUE = new Due();

    private final Random random;
    private final ShireLines desk = new ShireLines();
    private final PlainDesk model = new PlainDesk();
    /** Few years make acts of one year frequent. */
    private final int years;
    /** How many of a hundred arguments are drawn from wild numbers. */
    private final int wild;

    private ModelTest(int seed) {
        random = new Random(seed);
        years = seed % 3 == 0 ? 4 : seed % 3 == 1 ? 30 : 1000;
        wild = seed % 4 == 0 ? 12 : seed % 4 == 1 ? 0 : 2;
    }

    public static void main(String[] args) {
        int[] often = new int[OFTEN.length];
        int[] fine = new int[OFTEN.length];
        for (int seed = 0; seed < RUNS && !DUE.hasWrong(); seed++) {
            new ModelTest(seed).run(seed, often, fine);
        }
        for (int call = 0; call < OFTEN.length; call++) {
            DUE.isTrue(Call.NAMES.get(call) + " was made, and often answered no finding",
                often[call] > 500 && fine[call] > 100);
        }
        DUE.end();
    }

    private void run(int seed, int[] often, int[] fine) {
        for (int i = 0; i < CALLS; i++) {
            int call = i < 5 ? 0 : drawCall();
            int[] p = arguments(call);
            if (i < 5 && seed % 5 != 0) {
                p[0] = i == 3 ? 3 : i % 3;
            }
            Call made = new Call(call, p, set());
            long want = made.on(model);
            DUE.is("seed " + seed + ", call " + i + ": " + made, made.on(desk), want);
            often[call]++;
            fine[call] += want > -1000000000000000000L ? 1 : 0;
        }
    }

    private int drawCall() {
        int rest = random.nextInt(Arrays.stream(OFTEN).sum());
        int call = 0;
        while (rest >= OFTEN[call]) {
            rest -= OFTEN[call++];
        }
        return call;
    }

    private int number(int most) {
        if (random.nextInt(100) < wild) {
            int[] wilds = {-1, -2, most + 1, Integer.MAX_VALUE, Integer.MIN_VALUE, 10, 36, 256, 65536};
            return wilds[random.nextInt(wilds.length)];
        }
        return random.nextInt(most + 1);
    }

    private int year() {
        if (random.nextInt(100) < wild) {
            int[] wilds = {999, 2000, -1, 1999, 1000, Integer.MAX_VALUE, Integer.MIN_VALUE};
            return wilds[random.nextInt(wilds.length)];
        }
        return (years == 1000 ? 1000 : 1500) + random.nextInt(years);
    }

    private int unit() {
        return number(random.nextInt(4) == 0 ? 9 : 4);
    }

    private int act() {
        return number(random.nextInt(3) == 0 ? 29 : 9);
    }

    private long set() {
        if (random.nextInt(100) < wild) {
            return random.nextBoolean() ? random.nextLong() : 1L << 36;
        }
        long set = random.nextLong() & Due.FIELD;
        return random.nextInt(3) == 0 ? set : set & random.nextLong();
    }

    private int other(int cell) {
        int[] steps = {1, -1, 6, -6, 0, 5, 7};
        return random.nextInt(4) == 0 ? number(35) : cell + steps[random.nextInt(random.nextInt(4) == 0 ? 7 : 4)];
    }

    private int sheetNumber() {
        int[] wilds = {-1, 256, 256 + 10, 65536, 65536 + 1, 11, Integer.MIN_VALUE};
        return random.nextInt(4) == 0 ? wilds[random.nextInt(wilds.length)] : random.nextInt(12);
    }

    private int[] arguments(int call) {
        int cell = number(35);
        int from = year();
        int bits = new int[] {0, 8, 8, 16, 32, 8, 7}[random.nextInt(random.nextInt(4) == 0 ? 7 : 6)];
        switch (call) {
            case 0: return new int[] {number(3)};
            case 1: return new int[] {unit(), number(3)};
            case 2: return new int[] {unit(), year()};
            case 3: case 4: return new int[] {unit(), unit(), year()};
            case 5: return new int[] {act(), Math.max(year(), year())};
            case 6: return new int[] {unit(), random.nextInt(3) == 0 ? unit() : 3, year()};
            case 7: return new int[] {act(), number(4)};
            case 8: return new int[0];
            case 9: return new int[] {cell, year()};
            case 10: case 11: case 13: case 16: return new int[] {unit(), year()};
            case 12: return new int[] {unit(), year(), number(2)};
            case 14: return new int[] {cell, other(cell), year()};
            case 15: case 24: return new int[] {year()};
            case 17: return new int[] {number(3), year()};
            case 18: return new int[] {number(1), cell, random.nextInt(3) == 0 ? random.nextInt(13) - 2 : unit()};
            case 19: return new int[] {number(1), number(3)};
            case 20: return new int[] {number(1), from, random.nextInt(4) == 0 ? year() : Math.max(from, year())};
            case 21: return new int[] {number(1), number(1)};
            case 22: return new int[] {unit(), year(), number(random.nextBoolean() ? 1000000 : 50)};
            case 23: return new int[] {year(), unit(), year(), random.nextInt(2)};
            case 25: return new int[] {number(3), bits, number(random.nextInt(8) == 0 ? 40 : 36)};
            case 26: return new int[] {number(3), number(random.nextBoolean() ? 35 : 8), sheetNumber()};
            case 27: return new int[] {number(3), number(10), number(3), number(10), number(10)};
            case 28: return new int[] {number(3), number(3)};
            default: return new int[] {number(4)};
        }
    }
}
