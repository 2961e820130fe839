/** Promises 11 to 18: who, there, cells, shape, under, led, borders, changes. */
public final class AtAYearTest {
    private static final Due DUE = new Due();

    public static void main(String[] args) {
        findings();
        who();
        there();
        cellsOfHundreds();
        areaPiecesSides();
        shapeOfHundreds();
        under();
        ledFindings();
        ledPairs();
        ledLatest();
        ledByBackAndSwallow();
        ledByOrderNotNumber();
        borders();
        changes();
        changesWithinAYear();
        changesOfHundreds();
        DUE.end();
    }

    private static void findings() {
        ShireLines x = Due.desk();
        int[] wrongYears = {999, 2000, -1, Integer.MIN_VALUE, Integer.MAX_VALUE};
        for (int year : wrongYears) {
            DUE.is("who, year " + year, x.who(0, year), Due.BEYOND);
            DUE.is("there, year " + year, x.there(0, year), Due.BEYOND);
            DUE.is("there of a HUNDRED, year " + year, x.there(3, year), Due.BEYOND);
            DUE.is("cells, year " + year, x.cells(0, year), Due.BEYOND);
            DUE.is("shape, year " + year, x.shape(0, year, 0), Due.BEYOND);
            DUE.is("under, year " + year, x.under(3, year), Due.BEYOND);
            DUE.is("led, year " + year, x.led(0, 0, year), Due.BEYOND);
            DUE.is("borders, year " + year, x.borders(year), Due.BEYOND);
            DUE.is("changes, year " + year, x.changes(0, year), Due.BEYOND);
        }
        int[] wrongUnits = {6, 10, -1, Integer.MIN_VALUE, Integer.MAX_VALUE};
        for (int unit : wrongUnits) {
            DUE.is("there, unit " + unit, x.there(unit, 1000), Due.BEYOND);
            DUE.is("cells, unit " + unit, x.cells(unit, 1000), Due.BEYOND);
            DUE.is("shape, unit " + unit, x.shape(unit, 1000, 0), Due.BEYOND);
            DUE.is("under, unit " + unit, x.under(unit, 1000), Due.BEYOND);
            DUE.is("changes, unit " + unit, x.changes(unit, 1000), Due.BEYOND);
        }
        int[] wrongCells = {36, -1, Integer.MIN_VALUE, Integer.MAX_VALUE};
        for (int cell : wrongCells) {
            DUE.is("who, cell " + cell, x.who(cell, 1000), Due.BEYOND);
            DUE.is("led, cell " + cell, x.led(cell, 0, 1000), Due.BEYOND);
            DUE.is("led, other " + cell, x.led(0, cell, 1000), Due.BEYOND);
        }
        DUE.is("shape(0, 1000, -1)", x.shape(0, 1000, -1), Due.BEYOND);
        DUE.is("shape(0, 1000, 3)", x.shape(0, 1000, 3), Due.BEYOND);
    }

    private static void who() {
        ShireLines x = Due.desk();
        x.found(0, 1000, Due.set(0, 35));
        x.found(1, 1999, Due.set(35));
        x.join(0, 3, 1500);
        DUE.is("in the act's year", x.who(0, 1000), 0);
        DUE.is("a HUNDRED is no holder", x.who(0, 1500), 0);
        DUE.is("cell 35", x.who(35, 1998), 0);
        DUE.is("cell 35 in the last year", x.who(35, 1999), 1);
        DUE.is("nobody", x.who(1, 1999), 10);
    }

    private static void there() {
        ShireLines x = Due.desk();
        x.found(0, 1200, 0);
        x.found(1, 1200, 0);
        x.swallow(0, 1, 1300);
        x.found(0, 1400, 0);
        DUE.is("ahead", x.there(0, 1199), 0);
        DUE.is("founded", x.there(0, 1200), 1);
        DUE.is("up to", x.there(0, 1299), 1);
        DUE.is("swallowed", x.there(0, 1300), 0);
        DUE.is("founded again", x.there(0, 1400), 1);
        DUE.is("the other one", x.there(1, 1300), 1);
        DUE.is("a HUNDRED always", x.there(3, 1000), 1);
        DUE.is("a HUNDRED always", x.there(3, 1999), 1);
        DUE.is("never founded", x.there(4, 1999), 0);
    }

    private static void cellsOfHundreds() {
        ShireLines x = Due.desk();
        x.found(0, 1100, Due.set(0, 1));
        x.found(1, 1100, Due.set(7));
        x.found(4, 1100, Due.set(20));
        x.join(0, 3, 1200);
        x.join(1, 3, 1250);
        x.join(4, 5, 1250);
        DUE.is("ahead", x.cells(3, 1199), 0);
        DUE.is("one", x.cells(3, 1200), Due.set(0, 1));
        DUE.is("two", x.cells(3, 1250), Due.set(0, 1, 7));
        DUE.is("the other HUNDRED", x.cells(5, 1250), Due.set(20));
        x.move(4, 1, 1300, Due.set(20));
        DUE.is("it grows by its units", x.cells(3, 1300), Due.set(0, 1, 7, 20));
        DUE.is("a unit's own", x.cells(1, 1300), Due.set(7, 20));
        DUE.is("who is the unit", x.who(20, 1300), 1);
    }

    private static void areaPiecesSides() {
        shapeIs(0L, 0, 0, 0);
        shapeIs(Due.set(0), 1, 1, 4);
        shapeIs(Due.set(35), 1, 1, 4);
        shapeIs(Due.set(14), 1, 1, 4);
        shapeIs(Due.set(5, 6), 2, 2, 8);
        shapeIs(Due.set(0, 7), 2, 2, 8);
        shapeIs(Due.set(0, 1), 2, 1, 6);
        shapeIs(Due.set(0, 6), 2, 1, 6);
        shapeIs(Due.set(11, 12), 2, 2, 8);
        shapeIs(Due.set(0, 5), 2, 2, 8);
        shapeIs(Due.set(0, 30), 2, 2, 8);
        shapeIs(Due.set(7, 8, 9, 13, 15, 19, 20, 21), 8, 1, 16);
        shapeIs(Due.FIELD, 36, 1, 24);
        shapeIs(Due.FIELD & ~Due.set(14), 35, 1, 28);
        shapeIs(Due.set(0, 1, 2, 3, 4, 5, 11, 17, 16, 15, 14, 13, 12, 18, 24, 25, 26, 27, 28, 29, 35), 21, 1, 44);
        shapeIs(Due.BOARD, 18, 18, 72);
        shapeIs(Due.set(5, 10, 11, 30, 31, 24), 6, 2, 16);
    }

    private static void shapeIs(long set, int area, int pieces, int sides) {
        ShireLines x = Due.desk();
        x.found(0, 1500, set);
        DUE.is("AREA of " + set, x.shape(0, 1500, 0), area);
        DUE.is("PIECES of " + set, x.shape(0, 1500, 1), pieces);
        DUE.is("SIDES of " + set, x.shape(0, 1500, 2), sides);
        DUE.is("AREA the year ahead", x.shape(0, 1499, 0), 0);
    }

    private static void shapeOfHundreds() {
        ShireLines x = Due.desk();
        x.found(0, 1100, Due.set(0, 1));
        x.found(1, 1100, Due.set(2, 35));
        x.join(0, 3, 1100);
        x.join(1, 3, 1100);
        DUE.is("AREA", x.shape(3, 1100, 0), 4);
        DUE.is("PIECES", x.shape(3, 1100, 1), 2);
        DUE.is("SIDES", x.shape(3, 1100, 2), 12);
    }

    private static void under() {
        ShireLines x = Due.desk();
        x.found(2, 1100, Due.set(0));
        x.join(2, 5, 1300);
        x.join(2, 3, 1200);
        DUE.is("NONE ahead", x.under(2, 1199), Due.NONE);
        DUE.is("first", x.under(2, 1200), 3);
        DUE.is("then", x.under(2, 1300), 5);
        DUE.is("another unit", x.under(0, 1300), Due.NONE);
        DUE.is("a HUNDRED", x.under(3, 1300), Due.KIND);
    }

    private static void ledFindings() {
        ShireLines x = Due.desk();
        x.found(0, 1100, Due.set(0, 5, 6));
        DUE.is("one cell", x.led(0, 0, 1100), Due.SIZE);
        DUE.is("across", x.led(0, 7, 1100), Due.SIZE);
        DUE.is("row's end and start", x.led(5, 6, 1100), Due.SIZE);
        DUE.is("row's start and end", x.led(12, 11, 1100), Due.SIZE);
        DUE.is("two apart", x.led(0, 2, 1100), Due.SIZE);
        DUE.is("two rows apart", x.led(0, 12, 1100), Due.SIZE);
        DUE.is("no border ahead", x.led(0, 1, 1099), Due.NONE);
        DUE.is("no border within", x.led(0, 6, 1100), Due.NONE);
        DUE.is("no border among nobody", x.led(34, 35, 1100), Due.NONE);
    }

    private static void ledPairs() {
        ShireLines x = Due.desk();
        x.found(0, 1100, Due.set(14));
        int[] beside = {13, 15, 8, 20};
        for (int other : beside) {
            DUE.is("led(14, " + other + ")", x.led(14, other, 1100), 0);
            DUE.is("led(" + other + ", 14)", x.led(other, 14, 1999), 0);
        }
    }

    private static void ledLatest() {
        ShireLines x = Due.desk();
        x.found(0, 1100, Due.set(0));
        x.found(1, 1200, Due.set(1));
        DUE.is("unlike ones stay unlike", x.led(0, 1, 1200), 0);
        DUE.is("a new border", x.led(1, 2, 1200), 1);
        x.move(0, 1, 1300, Due.set(0));
        DUE.is("no border now", x.led(0, 1, 1300), Due.NONE);
        x.move(1, 0, 1400, Due.set(1));
        DUE.is("a border again", x.led(0, 1, 1400), 3);
        DUE.is("and for good", x.led(0, 1, 1999), 3);
        DUE.is("the old one then", x.led(0, 1, 1299), 0);
        DUE.is("two changes at once keep the border", x.led(1, 2, 1400), 1);
    }

    private static void ledByBackAndSwallow() {
        ShireLines x = Due.desk();
        x.found(0, 1100, Due.set(0, 1));
        x.found(1, 1100, Due.set(2));
        x.found(4, 1100, Due.set(3));
        x.swallow(0, 1, 1200);
        DUE.is("swallowed", x.led(1, 2, 1200), Due.NONE);
        x.found(0, 1250, 0);
        x.back(3, 1300);
        DUE.is("given back", x.led(1, 2, 1300), 5);
        DUE.is("another border", x.led(2, 3, 1300), 1);
        x.join(0, 3, 1400);
        x.join(1, 3, 1400);
        DUE.is("HUNDREDS are not looked at", x.led(1, 2, 1500), 5);
        DUE.is("HUNDREDS are not looked at by borders", x.borders(1500), x.borders(1300));
    }

    private static void ledByOrderNotNumber() {
        ShireLines x = Due.desk();
        x.found(0, 1500, Due.set(0));
        x.found(1, 1100, Due.set(0));
        DUE.is("the first done made it", x.led(0, 1, 1600), 1);
        x.found(4, 1200, Due.set(0, 1));
        DUE.is("broken between, made by the number 0", x.led(0, 1, 1600), 0);
        DUE.is("no border between", x.led(0, 1, 1300), Due.NONE);
        DUE.is("that outer one", x.led(1, 2, 1600), 2);
    }

    private static void borders() {
        ShireLines x = Due.desk();
        DUE.is("none", x.borders(1000), 0);
        x.found(0, 1100, Due.set(0));
        DUE.is("a corner", x.borders(1100), 2);
        DUE.is("the year ahead", x.borders(1099), 0);
        x.found(1, 1200, Due.set(14));
        DUE.is("and one in the midst", x.borders(1200), 6);
        x.found(2, 1300, Due.BOARD);
        DUE.is("a board", x.borders(1300), 60);
        x.found(4, 1400, Due.FIELD);
        DUE.is("one holds all", x.borders(1400), 0);
        x.move(4, 0, 1500, Due.set(5, 6, 11, 12));
        DUE.is("two in a column and two in another", x.borders(1500), 7);
    }

    private static void changes() {
        ShireLines x = Due.desk();
        DUE.is("no acts", x.changes(0, 1000), Due.NONE);
        x.found(0, 1500, Due.set(0));
        x.found(1, 1200, Due.set(0));
        x.move(1, 0, 1600, Due.set(0));
        DUE.is("first", x.changes(0, 1000), 1500);
        DUE.is("of its year", x.changes(0, 1500), 1500);
        DUE.is("behind", x.changes(0, 1501), Due.NONE);
        DUE.is("lost by another's founding", x.changes(1, 1201), 1500);
        DUE.is("a VOID act changes nothing", x.changes(1, 1501), Due.NONE);
        DUE.is("founded without cells", x.changes((int) changeless(x), 1000), Due.NONE);
        ShireLines y = Due.desk();
        y.found(0, 1000, Due.set(0));
        DUE.is("1000: than nothing", y.changes(0, 1000), 1000);
        DUE.is("not in 1001", y.changes(0, 1001), Due.NONE);
        y.found(1, 1999, Due.set(0));
        DUE.is("in the last year", y.changes(0, 1001), 1999);
        DUE.is("from the last year on", y.changes(1, 1999), 1999);
    }

    private static long changeless(ShireLines x) {
        x.found(4, 1300, 0);
        return 4;
    }

    private static void changesWithinAYear() {
        ShireLines x = Due.desk();
        x.found(0, 1100, Due.set(0, 1));
        x.found(1, 1100, Due.set(2));
        x.move(0, 1, 1200, Due.set(0));
        x.back(2, 1200);
        DUE.is("forth and back in one year", x.changes(0, 1101), Due.NONE);
        x.move(0, 1, 1300, Due.set(1));
        DUE.is("a true change", x.changes(0, 1101), 1300);
        x.move(1, 0, 1301, Due.set(1));
        x.move(0, 1, 1302, Due.set(0));
        DUE.is("year upon year: lost", x.changes(0, 1300), 1300);
        DUE.is("year upon year: won", x.changes(0, 1301), 1301);
        DUE.is("year upon year: lost again", x.changes(0, 1302), 1302);
        DUE.is("and no more", x.changes(0, 1303), Due.NONE);
        x.back(4, 1301);
        DUE.is("no change by a VOID act of a year", x.changes(0, 1301), 1301);
    }

    private static void changesOfHundreds() {
        ShireLines x = Due.desk();
        x.found(0, 1100, Due.set(0));
        x.found(1, 1100, Due.set(1));
        x.join(0, 3, 1200);
        x.move(0, 1, 1300, Due.set(0));
        DUE.is("joined", x.changes(3, 1000), 1200);
        DUE.is("lost", x.changes(3, 1201), 1300);
        DUE.is("the unit does not change by joining", x.changes(0, 1101), 1300);
        x.join(1, 3, 1300);
        DUE.is("grown instead", x.changes(3, 1201), 1300);
        DUE.is("two now", x.cells(3, 1300), Due.set(0, 1));
        DUE.is("never", x.changes(5, 1000), Due.NONE);
    }
}
