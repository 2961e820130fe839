/** Promises 19 to 23 and 30: map, claim, read, best, quarrel, lay. */
public final class MapsTest {
    private static final Due DUE = new Due();

    public static void main(String[] args) {
        map();
        claim();
        read();
        best();
        bestWithin();
        quarrel();
        layFindings();
        lay();
        layWideNumbers();
        DUE.end();
    }

    private static void map() {
        ShireLines x = Due.desk();
        DUE.is("map(0, 1999)", x.map(0, 1999), 1000);
        DUE.is("what it was of", x.map(0, 1000), 1999);
        DUE.is("another one", x.map(3, 1500), 1000);
        DUE.is("map(-1, 1000)", x.map(-1, 1000), Due.BEYOND);
        DUE.is("map(4, 1000)", x.map(4, 1000), Due.BEYOND);
        DUE.is("map(3, 999)", x.map(3, 999), Due.BEYOND);
        DUE.is("map(3, 2000)", x.map(3, 2000), Due.BEYOND);
        DUE.is("it stays", x.read(3, 0), 1500);
    }

    private static void claim() {
        ShireLines x = Due.desk();
        DUE.is("first", x.claim(0, 0, 2), 0);
        DUE.is("again", x.claim(0, 0, 10), 1);
        DUE.is("nothing", x.claim(0, 0, -1), 1);
        DUE.is("nothing still", x.claim(0, 0, -1), 0);
        DUE.is("anew", x.claim(0, 0, 1), 0);
        DUE.is("cell 35", x.claim(3, 35, 10), 0);
        DUE.is("map -1", x.claim(-1, 0, 0), Due.BEYOND);
        DUE.is("map 4", x.claim(4, 0, 0), Due.BEYOND);
        DUE.is("cell -1", x.claim(0, -1, 0), Due.BEYOND);
        DUE.is("cell 36", x.claim(0, 36, 0), Due.BEYOND);
        DUE.is("unit 6", x.claim(0, 0, 6), Due.BEYOND);
        DUE.is("unit 11", x.claim(0, 0, 11), Due.BEYOND);
        DUE.is("unit -2", x.claim(0, 0, -2), Due.BEYOND);
        DUE.is("a HUNDRED at no cell", x.claim(0, 36, 3), Due.BEYOND);
        DUE.is("a HUNDRED", x.claim(0, 1, 3), Due.KIND);
        DUE.is("one claim", x.read(0, 1), 1);
    }

    private static void read() {
        ShireLines x = Due.desk();
        x.found(0, 1200, Due.set(0, 1));
        x.map(1, 1199);
        x.claim(1, 0, 0);
        x.claim(1, 1, 10);
        x.claim(1, 35, 10);
        DUE.is("year", x.read(1, 0), 1199);
        DUE.is("claims", x.read(1, 1), 3);
        DUE.is("agrees", x.read(1, 2), 2);
        DUE.is("first wrong", x.read(1, 3), 0);
        x.map(1, 1200);
        DUE.is("agrees then", x.read(1, 2), 2);
        DUE.is("first wrong then", x.read(1, 3), 1);
        x.claim(1, 1, -1);
        DUE.is("none wrong", x.read(1, 3), 36);
        DUE.is("no claim is no agreement", x.read(1, 2), 2);
        x.claim(1, 35, 0);
        DUE.is("the last cell is wrong", x.read(1, 3), 35);
        DUE.is("read(4, 0)", x.read(4, 0), Due.BEYOND);
        DUE.is("read(-1, 0)", x.read(-1, 0), Due.BEYOND);
        DUE.is("read(0, 4)", x.read(0, 4), Due.BEYOND);
        DUE.is("read(0, -1)", x.read(0, -1), Due.BEYOND);
    }

    private static void best() {
        ShireLines x = Due.desk();
        DUE.is("no claims: the first", x.best(0, 1200, 1300), 1200);
        x.found(0, 1500, Due.set(0, 1, 2));
        x.found(1, 1300, Due.set(0, 3));
        x.found(2, 1700, Due.set(2));
        x.claim(0, 0, 0);
        x.claim(0, 2, 0);
        x.claim(0, 3, 1);
        DUE.is("most", x.best(0, 1000, 1999), 1500);
        x.claim(0, 2, 10);
        x.claim(0, 0, 1);
        DUE.is("most at 1300", x.best(0, 1000, 1999), 1300);
        DUE.is("of several the first", x.best(0, 1350, 1450), 1350);
        DUE.is("at the last year", x.best(0, 1000, 1300), 1300);
        DUE.is("only up to", x.best(0, 1000, 1299), 1000);
        DUE.is("BEYOND map", x.best(4, 1000, 1999), Due.BEYOND);
        DUE.is("BEYOND map -1", x.best(-1, 1000, 1999), Due.BEYOND);
        DUE.is("BEYOND from", x.best(0, 999, 1999), Due.BEYOND);
        DUE.is("BEYOND to", x.best(0, 1000, 2000), Due.BEYOND);
        DUE.is("first above second", x.best(0, 1001, 1000), Due.BEYOND);
        DUE.is("one year", x.best(0, 1000, 1000), 1000);
    }

    private static void bestWithin() {
        ShireLines x = Due.desk();
        x.found(0, 1200, Due.set(0));
        x.found(1, 1200, Due.set(0));
        x.claim(0, 0, 0);
        DUE.is("what stood within a year does not count", x.best(0, 1000, 1999), 1000);
        x.move(1, 0, 1200, Due.set(0));
        DUE.is("behind all of the year", x.best(0, 1000, 1999), 1200);
        DUE.is("its own year is not looked at", x.read(0, 2), 0);
    }

    private static void quarrel() {
        ShireLines x = Due.desk();
        DUE.is("no claims", x.quarrel(0, 1), Due.NONE);
        x.claim(0, 5, 0);
        DUE.is("nothing is no claim", x.quarrel(0, 1), Due.NONE);
        x.claim(1, 5, 0);
        DUE.is("alike", x.quarrel(0, 1), Due.NONE);
        x.claim(0, 35, 0);
        x.claim(1, 35, 10);
        DUE.is("unlike", x.quarrel(0, 1), 35);
        x.claim(0, 7, 1);
        x.claim(1, 7, 2);
        DUE.is("the first", x.quarrel(1, 0), 7);
        DUE.is("with itself", x.quarrel(0, 0), Due.NONE);
        DUE.is("BEYOND", x.quarrel(4, 0), Due.BEYOND);
        DUE.is("BEYOND other", x.quarrel(0, 4), Due.BEYOND);
        DUE.is("BEYOND -1", x.quarrel(0, -1), Due.BEYOND);
    }

    private static void layFindings() {
        ShireLines x = Due.desk();
        DUE.is("map", x.lay(4, 0), Due.BEYOND);
        DUE.is("map -1", x.lay(-1, 0), Due.BEYOND);
        DUE.is("sheet", x.lay(0, 4), Due.BEYOND);
        DUE.is("sheet -1", x.lay(0, -1), Due.BEYOND);
        x.claim(0, 0, 0);
        DUE.is("MISSING", x.lay(0, 0), Due.MISSING);
        DUE.is("claims stay", x.read(0, 1), 1);
        x.sheet(0, 8, 0);
        DUE.is("an empty sheet", x.lay(0, 0), 0);
        DUE.is("claims are gone", x.read(0, 1), 0);
    }

    private static void lay() {
        ShireLines x = Due.desk();
        x.map(2, 1200);
        x.claim(2, 0, 10);
        x.claim(2, 9, 0);
        x.sheet(1, 16, 8);
        int[] numbers = {0, 1, 2, 3, 4, 6, 10, 11};
        for (int i = 0; i < numbers.length; i++) {
            x.put(1, i, numbers[i]);
        }
        DUE.is("0, 1, 2, 4 and 10", x.lay(2, 1), 5);
        DUE.is("the year stays", x.read(2, 0), 1200);
        DUE.is("cell 0 was claimed", x.claim(2, 0, 0), 1);
        DUE.is("a HUNDRED is nothing", x.claim(2, 3, -1), 0);
        DUE.is("no such unit is nothing", x.claim(2, 5, -1), 0);
        DUE.is("nobody", x.claim(2, 6, 10), 1);
        DUE.is("11 is nothing", x.claim(2, 7, -1), 0);
        DUE.is("a cell without number is nothing", x.claim(2, 9, -1), 0);
        x.found(2, 1200, Due.set(2));
        x.found(1, 1200, Due.set(6));
        DUE.is("agrees at 2", x.read(2, 2), 1);
        DUE.is("wrong", x.read(2, 3), 0);
        x.unit(Due.UNIT);
        DUE.is("unit 6 is there for the next lay", x.lay(2, 1), 6);
    }

    private static void layWideNumbers() {
        ShireLines x = Due.desk();
        int[] bits = {8, 16, 32};
        int[] due = {6, 4, 2};
        for (int k = 0; k < 3; k++) {
            x.sheet(k, bits[k], 36);
            for (int i = 0; i < 36; i++) {
                x.put(k, i, -1);
            }
            x.put(k, 0, 0);
            x.put(k, 1, 256);
            x.put(k, 2, 65536 + 10);
            x.put(k, 3, 256 + 10);
            x.put(k, 35, 10);
            x.put(k, 34, -65536 + 4);
            DUE.is("lay of " + bits[k] + " bits", x.lay(k, k), due[k]);
        }
    }
}
