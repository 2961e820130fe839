/** Promises 27 to 29 and 31: sheet, put, copy, told. What a sheet holds is seen by laying it on a map. */
public final class SheetsTest {
    private static final Due DUE = new Due();

    public static void main(String[] args) {
        sheet();
        sheetAnew();
        put();
        copyFindings();
        copyBounds();
        copyBetween();
        copyWithin();
        told();
        toldFindings();
        toldFullAndOrder();
        DUE.end();
    }

    private static void sheet() {
        ShireLines x = Due.desk();
        DUE.is("8 bits", x.sheet(0, 8, 36), 36);
        DUE.is("16 bits", x.sheet(1, 16, 1), 1);
        DUE.is("32 bits", x.sheet(2, 32, 0), 0);
        DUE.is("an empty one is not MISSING", x.put(2, 0, 0), Due.BEYOND);
        DUE.is("MISSING", x.sheet(0, 0, 0), 0);
        DUE.is("it is", x.put(0, 0, 0), Due.MISSING);
        DUE.is("MISSING has no numbers", x.sheet(1, 0, 5), 0);
        DUE.is("it is, too", x.put(1, 0, 0), Due.MISSING);
        DUE.is("sheet 4", x.sheet(4, 8, 1), Due.BEYOND);
        DUE.is("sheet -1", x.sheet(-1, 8, 1), Due.BEYOND);
        int[] wrongBits = {-8, 1, 7, 9, 24, 64, Integer.MIN_VALUE, Integer.MAX_VALUE};
        for (int bits : wrongBits) {
            DUE.is("bits " + bits, x.sheet(3, bits, 1), Due.BEYOND);
            DUE.is("bits " + bits + " ahead of SIZE", x.sheet(3, bits, -1), Due.BEYOND);
        }
        DUE.is("n -1", x.sheet(3, 8, -1), Due.SIZE);
        DUE.is("n least", x.sheet(3, 8, Integer.MIN_VALUE), Due.SIZE);
        DUE.is("n -1 of no bits", x.sheet(3, 0, -1), Due.SIZE);
        DUE.is("n 37", x.sheet(3, 8, 37), Due.BEYOND);
        DUE.is("n 37 of no bits", x.sheet(3, 0, 37), Due.BEYOND);
        DUE.is("still MISSING", x.put(3, 0, 0), Due.MISSING);
    }

    private static void sheetAnew() {
        ShireLines x = Due.desk();
        x.sheet(0, 8, 3);
        x.put(0, 0, 10);
        x.put(0, 2, 99);
        DUE.is("a finding leaves it", x.sheet(0, 8, 37), Due.BEYOND);
        cellsAre("as put", x, 0, 10, 0, -1);
        x.sheet(0, 16, 4);
        cellsAre("all 0", x, 0, 0, 0, 0, 0);
        x.sheet(0, 8, 2);
        x.put(0, 1, 1);
        cellsAre("fewer", x, 0, 0, 1, -1);
        x.sheet(0, 0, 0);
        x.sheet(0, 8, 2);
        cellsAre("all 0 behind MISSING", x, 0, 0, 0, -1);
    }

    private static void put() {
        ShireLines x = Due.desk();
        DUE.is("sheet 4", x.put(4, 0, 0), Due.BEYOND);
        DUE.is("sheet -1", x.put(-1, 0, 0), Due.BEYOND);
        DUE.is("MISSING ahead of no such number", x.put(0, -1, 0), Due.MISSING);
        x.sheet(0, 8, 4);
        x.sheet(1, 16, 4);
        x.sheet(2, 32, 4);
        DUE.is("number -1", x.put(0, -1, 1), Due.BEYOND);
        DUE.is("number 4", x.put(0, 4, 1), Due.BEYOND);
        DUE.is("number most", x.put(0, Integer.MAX_VALUE, 1), Due.BEYOND);
        for (int s = 0; s < 3; s++) {
            DUE.is("put 0", x.put(s, 0, 256 + 2), 0);
            DUE.is("put 1", x.put(s, 1, 65536 + 2), 0);
            DUE.is("put 2", x.put(s, 2, -256 + 1), 0);
            DUE.is("put 3", x.put(s, 3, 10), 0);
        }
        cellsAre("8 bits", x, 0, 2, 2, 1, 10);
        cellsAre("16 bits", x, 1, -1, 2, -1, 10);
        cellsAre("32 bits", x, 2, -1, -1, -1, 10);
    }

    private static void copyFindings() {
        ShireLines x = Due.desk();
        x.sheet(0, 8, 4);
        x.sheet(1, 16, 4);
        DUE.is("sheet 4", x.copy(4, 0, 0, 0, 0), Due.BEYOND);
        DUE.is("sheet -1", x.copy(-1, 0, 0, 0, 0), Due.BEYOND);
        DUE.is("other sheet 4", x.copy(0, 0, 4, 0, 0), Due.BEYOND);
        DUE.is("BEYOND ahead of MISSING", x.copy(2, 0, 4, 0, 0), Due.BEYOND);
        DUE.is("first MISSING", x.copy(2, 0, 0, 0, 0), Due.MISSING);
        DUE.is("second MISSING", x.copy(0, 0, 2, 0, 0), Due.MISSING);
        DUE.is("both MISSING", x.copy(2, 0, 3, 0, 0), Due.MISSING);
        DUE.is("MISSING ahead of BEYOND", x.copy(0, -1, 2, 0, 0), Due.MISSING);
        DUE.is("KIND", x.copy(0, 0, 1, 0, 1), Due.KIND);
        DUE.is("KIND ahead of BEYOND", x.copy(0, -1, 1, 0, 1), Due.KIND);
    }

    private static void copyBounds() {
        ShireLines x = Due.desk();
        int most = Integer.MAX_VALUE;
        int least = Integer.MIN_VALUE;
        x.sheet(0, 8, 4);
        x.sheet(1, 8, 2);
        DUE.is("from -1", x.copy(0, -1, 1, 0, 1), Due.BEYOND);
        DUE.is("to -1", x.copy(0, 0, 1, -1, 1), Due.BEYOND);
        DUE.is("n -1", x.copy(0, 0, 1, 0, -1), Due.BEYOND);
        DUE.is("n -1 from 1", x.copy(0, 1, 1, 1, -1), Due.BEYOND);
        DUE.is("first has not so many", x.copy(0, 3, 1, 0, 2), Due.BEYOND);
        DUE.is("second has not so many", x.copy(0, 0, 1, 0, 3), Due.BEYOND);
        DUE.is("second has not so many from 1", x.copy(0, 0, 1, 1, 2), Due.BEYOND);
        DUE.is("n most", x.copy(0, 1, 1, 1, most), Due.BEYOND);
        DUE.is("from most", x.copy(0, most, 1, 0, 1), Due.BEYOND);
        DUE.is("to most", x.copy(0, 0, 1, most, 1), Due.BEYOND);
        DUE.is("all most", x.copy(0, most, 1, most, most), Due.BEYOND);
        DUE.is("all least", x.copy(0, least, 1, least, least), Due.BEYOND);
        DUE.is("none from the end", x.copy(0, 4, 1, 2, 0), 0);
        DUE.is("none from behind the end", x.copy(0, 5, 1, 2, 0), Due.BEYOND);
        DUE.is("none to behind the end", x.copy(0, 4, 1, 3, 0), Due.BEYOND);
        cellsAre("nothing changed", x, 1, 0, 0, -1);
    }

    private static void copyBetween() {
        ShireLines x = Due.desk();
        x.sheet(0, 8, 4);
        x.sheet(1, 8, 4);
        for (int i = 0; i < 4; i++) {
            x.put(0, i, new int[] {1, 2, 10, 4}[i]);
        }
        DUE.is("copy two", x.copy(0, 1, 1, 2, 2), 2);
        cellsAre("from 1 to 2", x, 1, 0, 0, 2, 10, -1);
        cellsAre("the first stays", x, 0, 1, 2, 10, 4, -1);
        x.put(0, 1, 1);
        cellsAre("they are apart", x, 1, 0, 0, 2, 10, -1);
        DUE.is("copy all", x.copy(0, 0, 1, 0, 4), 4);
        cellsAre("all", x, 1, 1, 1, 10, 4, -1);
    }

    private static void copyWithin() {
        ShireLines x = Due.desk();
        x.sheet(0, 32, 4);
        for (int i = 0; i < 4; i++) {
            x.put(0, i, new int[] {1, 2, 10, 4}[i]);
        }
        DUE.is("forward", x.copy(0, 0, 0, 1, 3), 3);
        cellsAre("as they were", x, 0, 1, 1, 2, 10);
        DUE.is("backward", x.copy(0, 2, 0, 1, 2), 2);
        cellsAre("as they were, too", x, 0, 1, 2, 10, 10);
    }

    private static void told() {
        ShireLines x = Due.desk();
        x.found(0, 1100, 1);
        x.found(0, 1200, 1);
        x.swallow(1, 0, 1300);
        x.count(0, 1100, 5);
        DUE.is("units", x.told(0), 6);
        DUE.is("acts", x.told(1), 3);
        DUE.is("VOID ones", x.told(2), 2);
        DUE.is("COUNTS", x.told(3), 1);
        DUE.is("findings", x.told(4), 0);
        DUE.is("told(5)", x.told(5), Due.BEYOND);
        DUE.is("this one, too", x.told(4), 1);
        DUE.is("told(-1)", x.told(-1), Due.BEYOND);
        DUE.is("again", x.told(4), 2);
        x.untell();
        DUE.is("VOID ones", x.told(2), 1);
        DUE.is("an untold act is no finding", x.told(4), 2);
    }

    private static void toldFindings() {
        ShireLines x = Due.desk();
        long seen = 0;
        long[] answers = {
            x.unit(9), x.as(0, 1), x.found(3, 1000, 1), x.move(0, 0, 1000, 1), x.swallow(0, 0, 1000),
            x.back(0, 1000), x.join(0, 0, 1000), x.act(0, 0), x.untell(), x.who(36, 1000), x.there(9, 1000),
            x.cells(9, 1000), x.shape(0, 1000, 3), x.under(0, 1000), x.led(0, 1, 1000), x.borders(999),
            x.changes(0, 1000), x.map(4, 1000), x.claim(0, 0, 3), x.read(0, 4), x.best(0, 1001, 1000),
            x.quarrel(0, 1), x.count(3, 1000, 1), x.carried(1000, 9, 1000, true), x.people(999),
            x.sheet(0, 8, -1), x.put(0, 0, 0), x.copy(0, 0, 0, 0, 0), x.lay(0, 0), x.told(5),
        };
        for (long answer : answers) {
            if (answer < -1000000000000000000L) {
                seen++;
            }
        }
        DUE.is("each of the thirty answered a finding", seen, 30);
        DUE.is("and each is counted", x.told(4), 30);
    }

    private static void toldFullAndOrder() {
        ShireLines x = Due.desk();
        for (int i = 0; i < 30; i++) {
            x.unit(Due.UNIT);
            x.join(0, 3, 1000);
            x.count(0, 1000, i);
        }
        x.sheet(0, 8, 4);
        x.sheet(1, 16, 4);
        DUE.is("units 26, counts 10", x.told(4), 36);
        long[] findings = {
            x.as(9, 4), x.found(0, 999, 0), x.found(0, 1000, 0), x.move(0, 1, 999, 0), x.move(0, 3, 1000, 0),
            x.move(0, 1, 1000, 0), x.swallow(0, 1, 999), x.swallow(0, 3, 1000), x.swallow(0, 1, 1000), x.back(0, 999),
            x.back(0, 1000), x.join(0, 3, 999), x.join(0, 3, 1000), x.act(0, 5), x.who(0, 999), x.there(0, 999),
            x.cells(0, 999), x.shape(10, 1000, 0), x.under(0, 999), x.under(3, 1000), x.led(0, 1, 999),
            x.led(0, 0, 1000), x.changes(0, 999), x.claim(0, 36, 0), x.read(4, 0), x.quarrel(0, 4),
            x.count(0, 1000, -1), x.sheet(0, 9, 0), x.sheet(0, 8, 37), x.put(4, 0, 0), x.put(0, 4, 0),
            x.copy(0, 0, 4, 0, 0), x.copy(0, 0, 1, 0, 0), x.copy(0, 0, 0, 0, 5), x.lay(0, 4), x.told(-1),
        };
        DUE.is("all of these, too", x.told(4), 36 + findings.length);
    }

    /** Lays the sheet on map 3 and asks what it claims of the first cells. */
    private static void cellsAre(String what, ShireLines x, int s, int... due) {
        for (int cell = 0; cell < due.length; cell++) {
            x.lay(3, s);
            DUE.is(what + ", cell " + cell, claimed(x, cell), due[cell]);
        }
    }

    /** What map 3 claims of a cell (and no more): the claim of map 2 that it does not quarrel with. */
    private static long claimed(ShireLines x, int cell) {
        long claimed = -2;
        for (int unit : new int[] {0, 1, 2, 4, 10}) {
            x.claim(2, cell, unit);
            if (x.quarrel(2, 3) == Due.NONE) {
                claimed = unit;
            }
        }
        x.claim(2, cell, -1);
        return x.claim(3, cell, -1) == 0 ? -1 : claimed;
    }
}
