/** Tells each answer that is not the one that is due, and ends the test with exit code 1 if there was one. */
final class Due {
    static final long BEYOND = -1000000000000000001L;
    static final long MISSING = -1000000000000000002L;
    static final long SIZE = -1000000000000000003L;
    static final long KIND = -1000000000000000004L;
    static final long FULL = -1000000000000000005L;
    static final long NONE = -1000000000000000006L;

    static final int UNIT = 0;
    static final int PARISH = 1;
    static final int TOWN = 2;
    static final int HUNDRED = 3;

    static final long FIELD = (1L << 36) - 1;
    /** Every other cell, as on a chess board. */
    static final long BOARD = set(0, 2, 4, 7, 9, 11, 12, 14, 16, 19, 21, 23, 24, 26, 28, 31, 33, 35);

    private int asked;
    private int wrong;

    void is(String call, long got, long want) {
        asked++;
        if (got != want) {
            wrong++;
            System.out.println(call + " answered " + got + ", due is " + want);
        }
    }

    void isTrue(String what, boolean holds) {
        is(what, holds ? 1 : 0, 1);
    }

    boolean hasWrong() {
        return wrong != 0;
    }

    void end() {
        System.out.println(asked + " asked, " + wrong + " wrong");
        if (wrong != 0 || asked == 0) {
            System.exit(1);
        }
    }

    /** The set of the cells that are named. */
    static long set(int... cells) {
        long set = 0;
        for (int cell : cells) {
            set |= 1L << cell;
        }
        return set;
    }

    /** A desk with one unit of each kind: 0 UNIT, 1 PARISH, 2 TOWN, 3 HUNDRED, 4 UNIT, 5 HUNDRED. */
    static ShireLines desk() {
        ShireLines x = new ShireLines();
        x.unit(UNIT);
        x.unit(PARISH);
        x.unit(TOWN);
        x.unit(HUNDRED);
        x.unit(UNIT);
        x.unit(HUNDRED);
        return x;
    }
}
