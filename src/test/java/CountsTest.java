/** Promises 24 to 26: count, carried, people. */
public final class CountsTest {
    private static final Due DUE = new Due();

    public static void main(String[] args) {
        count();
        countFull();
        people();
        carriedFindings();
        carriedParts();
        carriedSums();
        carriedToHundreds();
        carriedBackward();
        carriedLargest();
        DUE.end();
    }

    private static void count() {
        ShireLines x = Due.desk();
        DUE.is("first", x.count(0, 1000, 0), 1);
        DUE.is("second", x.count(2, 1999, 1000000), 2);
        DUE.is("unit 6", x.count(6, 1000, 1), Due.BEYOND);
        DUE.is("unit -1", x.count(-1, 1000, 1), Due.BEYOND);
        DUE.is("year 999", x.count(0, 999, 1), Due.BEYOND);
        DUE.is("year 2000", x.count(0, 2000, 1), Due.BEYOND);
        DUE.is("people -1", x.count(0, 1000, -1), Due.BEYOND);
        DUE.is("people above", x.count(0, 1000, 1000001), Due.BEYOND);
        DUE.is("a HUNDRED, people above", x.count(3, 1000, 1000001), Due.BEYOND);
        DUE.is("a HUNDRED", x.count(3, 1000, 1), Due.KIND);
        DUE.is("there are two", x.told(3), 2);
    }

    private static void countFull() {
        ShireLines x = Due.desk();
        for (int i = 1; i <= 20; i++) {
            DUE.is("count " + i, x.count(0, 1000, i), i);
        }
        DUE.is("FULL", x.count(0, 1000, 99), Due.FULL);
        DUE.is("KIND ahead of FULL", x.count(3, 1000, 99), Due.KIND);
        DUE.is("BEYOND ahead of FULL", x.count(0, 1000, -1), Due.BEYOND);
        DUE.is("twenty", x.told(3), 20);
        DUE.is("the latest told", x.people(1000), 20);
    }

    private static void people() {
        ShireLines x = Due.desk();
        DUE.is("none", x.people(1000), 0);
        x.count(0, 1100, 7);
        DUE.is("one count", x.people(1100), 7);
        x.count(1, 1100, 30);
        x.count(0, 1200, 500);
        x.count(0, 1100, 9);
        DUE.is("of each the latest", x.people(1100), 39);
        DUE.is("of its year alone", x.people(1200), 500);
        DUE.is("another year", x.people(1150), 0);
        x.count(1, 1100, 0);
        DUE.is("nought counts", x.people(1100), 9);
        DUE.is("999", x.people(999), Due.BEYOND);
        DUE.is("2000", x.people(2000), Due.BEYOND);
    }

    private static void carriedFindings() {
        ShireLines x = Due.desk();
        DUE.is("unit 6", x.carried(1000, 6, 1000, false), Due.BEYOND);
        DUE.is("unit -1", x.carried(1000, -1, 1000, true), Due.BEYOND);
        DUE.is("year 999", x.carried(999, 0, 1000, false), Due.BEYOND);
        DUE.is("to 2000", x.carried(1000, 0, 2000, false), Due.BEYOND);
        fractionIs("no counts", x, 1000, 0, 1999, 0, 1);
        x.count(0, 1000, 50);
        fractionIs("holds no cells", x, 1000, 0, 1000, 0, 1);
    }

    private static void carriedParts() {
        ShireLines x = Due.desk();
        x.found(0, 1100, Due.set(0, 1, 2, 3, 4, 5));
        x.found(1, 1100, Due.set(6));
        x.move(0, 1, 1200, Due.set(0, 1));
        x.count(0, 1100, 10);
        fractionIs("two of six", x, 1100, 1, 1200, 10, 3);
        fractionIs("four of six", x, 1100, 0, 1200, 20, 3);
        fractionIs("all of six", x, 1100, 0, 1150, 10, 1);
        fractionIs("to one that holds none of it", x, 1100, 2, 1200, 0, 1);
        fractionIs("of another year", x, 1101, 0, 1200, 0, 1);
        x.count(0, 1100, 12);
        fractionIs("the latest told", x, 1100, 1, 1200, 4, 1);
        x.count(0, 1100, 0);
        fractionIs("nobody lives there", x, 1100, 1, 1200, 0, 1);
    }

    private static void carriedSums() {
        ShireLines x = Due.desk();
        x.found(0, 1100, Due.set(0, 1));
        x.found(1, 1100, Due.set(2, 3, 4));
        x.found(2, 1100, Due.set(6, 7, 8, 9, 10));
        x.found(4, 1200, Due.set(0, 2, 3, 6));
        x.count(0, 1100, 1);
        x.count(1, 1100, 1);
        x.count(2, 1100, 1);
        fractionIs("1/2 + 2/3 + 1/5", x, 1100, 4, 1200, 41, 30);
        fractionIs("1/2", x, 1100, 0, 1200, 1, 2);
        x.count(1, 1100, 0);
        fractionIs("1/2 + 0 + 1/5", x, 1100, 4, 1200, 7, 10);
        x.count(2, 1100, 15);
        x.count(0, 1100, 14);
        fractionIs("7 + 3", x, 1100, 4, 1200, 10, 1);
    }

    private static void carriedToHundreds() {
        ShireLines x = Due.desk();
        x.found(0, 1100, Due.set(0, 1, 2));
        x.found(1, 1200, Due.set(0));
        x.found(2, 1200, Due.set(1));
        x.join(1, 3, 1300);
        x.join(2, 3, 1400);
        x.count(0, 1100, 100);
        fractionIs("no unit under it", x, 1100, 3, 1299, 0, 1);
        fractionIs("one", x, 1100, 3, 1300, 100, 3);
        fractionIs("two", x, 1100, 3, 1400, 200, 3);
    }

    private static void carriedBackward() {
        ShireLines x = Due.desk();
        x.found(0, 1100, Due.set(0, 1, 2, 3));
        x.found(1, 1200, Due.set(3, 9));
        x.count(1, 1200, 5);
        x.count(0, 1200, 3);
        fractionIs("to an earlier year", x, 1200, 0, 1100, 11, 2);
    }

    private static void carriedLargest() {
        ShireLines x = new ShireLines();
        int[] areas = {1, 3, 4, 5, 7, 11, 2};
        int cell = 0;
        for (int unit = 0; unit < areas.length; unit++) {
            x.unit(Due.UNIT);
            long set = 0;
            for (int i = 0; i < areas[unit]; i++) {
                set |= 1L << cell++;
            }
            x.found(unit, 1000, set);
            x.count(unit, 1000, 999999);
        }
        x.unit(Due.UNIT);
        x.found(7, 1100, Due.set(0, 1, 4, 8, 13, 20, 31));
        long line = 4620;
        long above = 999999L * (line + line / 3 + line / 4 + line / 5 + line / 7 + line / 11 + line / 2);
        long common = java.math.BigInteger.valueOf(above).gcd(java.math.BigInteger.valueOf(line)).longValue();
        fractionIs("seven areas", x, 1000, 7, 1100, above / common, line / common);
    }

    private static void fractionIs(String what, ShireLines x, int year, int unit, int to, long above, long below) {
        DUE.is(what + ", above", x.carried(year, unit, to, false), above);
        DUE.is(what + ", below", x.carried(year, unit, to, true), below);
    }
}
