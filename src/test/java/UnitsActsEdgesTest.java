/** Promises 1 to 10: a test for each sentence that names an edge. */
public final class UnitsActsEdgesTest {
    private static final Due DUE = new Due();

    public static void main(String[] args) {
        newHasNoUnits();
        newHasNoActs();
        newHasNoCounts();
        newMapsAreOf1000();
        newMapsClaimNothing();
        newSheetsAreMissing();
        unitsNumber();
        unitBeyond();
        unitFull();
        asBeyond();
        asKind();
        foundNumber();
        foundBeyond();
        foundKind();
        foundFull();
        moveBeyond();
        moveKind();
        moveSize();
        moveFull();
        swallowBeyond();
        swallowKind();
        swallowSize();
        swallowFull();
        backBeyond();
        backKind();
        backFull();
        joinBeyond();
        joinKind();
        joinFull();
        actKindsAndYears();
        actVoid();
        actCells();
        actPlaces();
        actBeyond();
        untellCounts();
        untellNone();
        DUE.end();
    }

    private static Edge edge(String sentence, String... opening) {
        return new Edge(DUE, sentence, opening);
    }

    /** A desk that has 30 acts. */
    private static Edge fullOfActs(String sentence) {
        Edge edge = edge(sentence, Edge.RICH);
        for (int act = 7; act < 30; act++) {
            edge.taken("found(0, " + (1970 + act) + ", 0x1)", act);
        }
        return edge.taken("told(1)", 30);
    }

    // ---- Promise 1

    private static void newHasNoUnits() {
        Edge edge = edge("No units");
        edge.taken("told(0)", 0);
        for (int kind = 0; kind < 4; kind++) {
            edge.refused("as(0, " + kind + ")", Due.BEYOND);
        }
        edge.refused("there(0, 1000)", Due.BEYOND).refused("cells(0, 1000)", Due.BEYOND);
        edge.refused("shape(0, 1000, 0)", Due.BEYOND).refused("under(0, 1000)", Due.BEYOND);
        edge.refused("changes(0, 1000)", Due.BEYOND).refused("carried(1000, 0, 1000, true)", Due.BEYOND);
        edge.refused("claim(0, 0, 0)", Due.BEYOND).refused("claim(0, 0, 9)", Due.BEYOND);
        edge.refused("found(0, 1000, 0x1)", Due.BEYOND).refused("move(0, 1, 1000, 0x1)", Due.BEYOND);
        edge.refused("swallow(0, 1, 1000)", Due.BEYOND).refused("join(0, 1, 1000)", Due.BEYOND);
        edge.refused("count(0, 1000, 0)", Due.BEYOND);
        edge.taken("claim(0, 0, 10)", 0).taken("unit(0)", 0);
    }

    private static void newHasNoActs() {
        Edge edge = edge("[No] acts");
        edge.taken("told(1)", 0).taken("told(2)", 0).taken("told(4)", 0);
        edge.refused("act(0, 0)", Due.BEYOND).refused("back(0, 1000)", Due.BEYOND).refused("untell()", Due.NONE);
        for (int cell = 0; cell < 36; cell++) {
            edge.taken("who(" + cell + ", 1999)", 10);
        }
        edge.taken("borders(1000)", 0).taken("borders(1999)", 0).refused("led(0, 1, 1999)", Due.NONE);
        edge.done(Edge.KINDS).taken("found(0, 1999, 0x0)", 0);
    }

    private static void newHasNoCounts() {
        edge("[No] counts").taken("told(3)", 0).taken("people(1000)", 0).taken("people(1999)", 0)
            .taken("unit(0)", 0).taken("count(0, 1000, 0)", 1);
    }

    private static void newMapsAreOf1000() {
        for (int map = 0; map < 4; map++) {
            edge("maps of YEAR 1000").taken("read(" + map + ", 0)", 1000).taken("map(" + map + ", 1999)", 1000);
        }
    }

    private static void newMapsClaimNothing() {
        for (int map = 0; map < 4; map++) {
            Edge edge = edge("[maps] without claims");
            edge.taken("read(" + map + ", 1)", 0).taken("read(" + map + ", 2)", 0).taken("read(" + map + ", 3)", 36);
            for (int cell = 0; cell < 36; cell++) {
                edge.taken("claim(" + map + ", " + cell + ", -1)", 0);
            }
            edge.refused("quarrel(" + map + ", " + (map + 1) % 4 + ")", Due.NONE);
        }
    }

    private static void newSheetsAreMissing() {
        for (int s = 0; s < 4; s++) {
            Edge edge = edge("sheets MISSING");
            edge.refused("put(" + s + ", 0, 0)", Due.MISSING).refused("lay(0, " + s + ")", Due.MISSING);
            edge.refused("copy(" + s + ", 0, " + s + ", 0, 0)", Due.MISSING);
        }
    }

    // ---- Promise 2: unit

    private static void unitsNumber() {
        Edge edge = edge("A new unit: its number.");
        for (int unit = 0; unit < 10; unit++) {
            edge.taken("unit(" + unit % 4 + ")", unit).taken("told(0)", unit + 1);
        }
    }

    private static void unitBeyond() {
        Edge edge = edge("unit. BEYOND: kind is not 0 to 3.");
        edge.refused("unit(-1)", Due.BEYOND).refused("unit(4)", Due.BEYOND);
        edge.refused("unit(" + Edge.LEAST + ")", Due.BEYOND).refused("unit(" + Edge.MOST + ")", Due.BEYOND);
        edge.taken("unit(0)", 0).taken("unit(3)", 1);
        edge.refused("unit(-1)", Due.BEYOND).refused("unit(4)", Due.BEYOND).taken("told(0)", 2);
    }

    private static void unitFull() {
        Edge edge = edge("unit. FULL: there are 10.", Edge.RICH).done("unit(0)", "unit(1)", "unit(2)");
        edge.taken("told(0)", 9).taken("unit(3)", 9);
        for (int kind = 0; kind < 4; kind++) {
            edge.refused("unit(" + kind + ")", Due.FULL);
        }
        edge.refused("unit(-1)", Due.BEYOND).refused("unit(4)", Due.BEYOND).taken("told(0)", 10);
        edge.taken("as(9, 3)", 9).refused("as(10, 0)", Due.BEYOND);
    }

    // ---- Promise 3: as

    private static void asBeyond() {
        Edge edge = edge("as. BEYOND: no such unit, or kind.", Edge.RICH);
        edge.taken("as(0, 0)", 0).taken("as(5, 3)", 5).taken("as(5, 0)", 5);
        for (int unit : Edge.NO_UNITS) {
            edge.refused("as(" + unit + ", 0)", Due.BEYOND);
        }
        for (int kind : Edge.NO_FOUR) {
            edge.refused("as(0, " + kind + ")", Due.BEYOND).refused("as(6, " + kind + ")", Due.BEYOND);
        }
        edge.done("unit(0)", "unit(0)", "unit(0)", "unit(0)").taken("as(9, 0)", 9).refused("as(10, 0)", Due.BEYOND);
    }

    private static void asKind() {
        Edge edge = edge("as. KIND: it is not of that kind, nor of one under it.", Edge.KINDS);
        edge.taken("as(0, 0)", 0).taken("as(1, 1)", 1).taken("as(2, 2)", 2).taken("as(3, 3)", 3);
        edge.taken("as(1, 0)", 1).taken("as(2, 1)", 2).taken("as(2, 0)", 2).taken("as(3, 0)", 3);
        edge.refused("as(0, 1)", Due.KIND).refused("as(0, 2)", Due.KIND).refused("as(0, 3)", Due.KIND);
        edge.refused("as(1, 2)", Due.KIND).refused("as(1, 3)", Due.KIND).refused("as(2, 3)", Due.KIND);
        edge.refused("as(3, 1)", Due.KIND).refused("as(3, 2)", Due.KIND);
    }

    // ---- Promise 4: found

    private static void foundNumber() {
        Edge edge = edge("An act: FOUND: its number.", Edge.KINDS);
        edge.taken("found(0, 1999, 0x1)", 0).taken("found(0, 1000, 0x1)", 1).taken("found(0, 1500, 0x1)", 2);
        edge.taken("told(1)", 3);
    }

    private static void foundBeyond() {
        Edge edge = edge("found. BEYOND: no such unit, YEAR, or the set has a bit above 35, or is below 0.", Edge.RICH);
        for (int unit : Edge.NO_UNITS) {
            edge.refused("found(" + unit + ", 1500, 0x1)", Due.BEYOND);
        }
        for (int year : Edge.NO_YEARS) {
            edge.refused("found(4, " + year + ", 0x1)", Due.BEYOND);
        }
        for (int bit = 36; bit < 64; bit++) {
            edge.refused("found(4, 1500, " + (1L << bit) + ")", Due.BEYOND);
        }
        edge.refused("found(4, 1500, 0x1000000001)", Due.BEYOND).refused("found(4, 1500, -1)", Due.BEYOND);
        edge.refused("found(4, 1500, " + Long.MAX_VALUE + ")", Due.BEYOND);
        edge.refused("found(3, 999, 0x1)", Due.BEYOND).refused("found(3, 1500, 0x1000000000)", Due.BEYOND);
        edge.taken("found(0, 1000, 0x0)", 7).taken("found(4, 1999, 0xfffffffff)", 8);
        edge.taken("found(4, 1000, 0x800000000)", 9);
        edge.taken("cells(4, 1000)", Due.set(35)).taken("cells(0, 1000)", 0).taken("act(8, 2)", 1);
    }

    private static void foundKind() {
        Edge edge = edge("found. KIND: it is a HUNDRED.", Edge.RICH);
        edge.refused("found(3, 1500, 0x1)", Due.KIND).refused("found(5, 1000, 0x0)", Due.KIND);
        edge.taken("found(0, 1500, 0x1)", 7).taken("found(1, 1500, 0x1)", 8).taken("found(2, 1500, 0x1)", 9);
    }

    private static void foundFull() {
        Edge edge = fullOfActs("found. FULL: there are 30 acts.");
        edge.refused("found(4, 1000, 0x1)", Due.FULL).refused("found(4, 1999, 0x0)", Due.FULL);
        edge.refused("found(3, 1500, 0x1)", Due.KIND);
        edge.refused("found(6, 1500, 0x1)", Due.BEYOND).refused("found(4, 2000, 0x1)", Due.BEYOND);
        edge.refused("found(4, 1500, 0x1000000000)", Due.BEYOND);
        edge.taken("untell()", 29).taken("found(4, 1000, 0x1)", 29);
    }

    // ---- Promise 5: move

    private static void moveBeyond() {
        Edge edge = edge("move. BEYOND: no such unit (either), YEAR, or set.", Edge.RICH);
        for (int unit : Edge.NO_UNITS) {
            edge.refused("move(" + unit + ", 1, 1500, 0x2)", Due.BEYOND);
            edge.refused("move(0, " + unit + ", 1500, 0x2)", Due.BEYOND);
            edge.refused("move(" + unit + ", " + unit + ", 1500, 0x2)", Due.BEYOND);
            edge.refused("move(3, " + unit + ", 1500, 0x2)", Due.BEYOND);
        }
        for (int year : Edge.NO_YEARS) {
            edge.refused("move(0, 1, " + year + ", 0x2)", Due.BEYOND);
            edge.refused("move(0, 3, " + year + ", 0x2)", Due.BEYOND);
            edge.refused("move(0, 0, " + year + ", 0x2)", Due.BEYOND);
        }
        for (int bit = 36; bit < 64; bit++) {
            edge.refused("move(0, 1, 1500, " + (1L << bit | 2) + ")", Due.BEYOND);
        }
        edge.refused("move(0, 1, 1500, -1)", Due.BEYOND).refused("move(3, 1, 1500, -1)", Due.BEYOND);
        edge.refused("move(0, 0, 1500, -1)", Due.BEYOND);
        edge.taken("move(0, 4, 1000, 0x0)", 7).taken("act(7, 2)", 1);
        edge.taken("move(4, 0, 1999, 0x800000000)", 8).taken("act(8, 2)", 1);
        edge.taken("move(0, 1, 1999, 0xfffffffff)", 9).taken("act(9, 3)", 5);
    }

    private static void moveKind() {
        Edge edge = edge("move. KIND: one is a HUNDRED.", Edge.RICH);
        edge.refused("move(3, 0, 1500, 0x1)", Due.KIND).refused("move(0, 3, 1500, 0x1)", Due.KIND);
        edge.refused("move(3, 5, 1500, 0x1)", Due.KIND).refused("move(3, 3, 1500, 0x1)", Due.KIND);
        edge.taken("move(2, 1, 1500, 0x1)", 7).taken("move(1, 2, 1500, 0x1)", 8);
    }

    private static void moveSize() {
        Edge edge = edge("move. SIZE: they are one.", Edge.RICH);
        for (int unit : new int[] {0, 1, 2, 4}) {
            edge.refused("move(" + unit + ", " + unit + ", 1500, 0x1)", Due.SIZE);
        }
        edge.taken("move(0, 1, 1500, 0x2)", 7).taken("move(1, 0, 1500, 0x2)", 8);
    }

    private static void moveFull() {
        Edge edge = fullOfActs("move. FULL.");
        edge.refused("move(0, 1, 1500, 0x2)", Due.FULL).refused("move(0, 4, 1500, 0x0)", Due.FULL);
        edge.refused("move(1, 1, 1500, 0x2)", Due.SIZE).refused("move(3, 3, 1500, 0x2)", Due.KIND);
        edge.refused("move(0, 6, 1500, 0x2)", Due.BEYOND).refused("move(0, 1, 2000, 0x2)", Due.BEYOND);
        edge.refused("move(0, 1, 1500, -2)", Due.BEYOND);
        edge.taken("untell()", 29).taken("move(0, 1, 1500, 0x2)", 29).taken("who(1, 1500)", 1);
    }

    // ---- Promise 6: swallow

    private static void swallowBeyond() {
        Edge edge = edge("swallow. BEYOND likewise.", Edge.RICH);
        for (int unit : Edge.NO_UNITS) {
            edge.refused("swallow(" + unit + ", 1, 1500)", Due.BEYOND);
            edge.refused("swallow(0, " + unit + ", 1500)", Due.BEYOND);
            edge.refused("swallow(" + unit + ", " + unit + ", 1500)", Due.BEYOND);
            edge.refused("swallow(3, " + unit + ", 1500)", Due.BEYOND);
        }
        for (int year : Edge.NO_YEARS) {
            edge.refused("swallow(0, 1, " + year + ")", Due.BEYOND);
            edge.refused("swallow(3, 1, " + year + ")", Due.BEYOND);
            edge.refused("swallow(1, 1, " + year + ")", Due.BEYOND);
        }
        edge.taken("swallow(0, 1, 1000)", 7).taken("act(7, 2)", 1);
        edge.taken("swallow(0, 1, 1999)", 8).taken("act(8, 2)", 0).taken("swallow(4, 0, 1500)", 9);
    }

    private static void swallowKind() {
        Edge edge = edge("swallow. KIND likewise.", Edge.RICH);
        edge.refused("swallow(3, 0, 1500)", Due.KIND).refused("swallow(0, 3, 1500)", Due.KIND);
        edge.refused("swallow(5, 3, 1500)", Due.KIND).refused("swallow(5, 5, 1500)", Due.KIND);
        edge.taken("swallow(2, 1, 1500)", 7).taken("swallow(1, 2, 1500)", 8);
    }

    private static void swallowSize() {
        Edge edge = edge("swallow. SIZE likewise.", Edge.RICH);
        for (int unit : new int[] {0, 1, 2, 4}) {
            edge.refused("swallow(" + unit + ", " + unit + ", 1500)", Due.SIZE);
        }
        edge.taken("swallow(0, 1, 1500)", 7);
    }

    private static void swallowFull() {
        Edge edge = fullOfActs("swallow. FULL likewise.");
        edge.refused("swallow(0, 1, 1500)", Due.FULL).refused("swallow(2, 0, 1500)", Due.FULL);
        edge.refused("swallow(1, 1, 1500)", Due.SIZE).refused("swallow(3, 3, 1500)", Due.KIND);
        edge.refused("swallow(0, 6, 1500)", Due.BEYOND).refused("swallow(0, 1, 999)", Due.BEYOND);
        edge.taken("untell()", 29).taken("swallow(0, 1, 1500)", 29).taken("there(0, 1500)", 0);
    }

    // ---- Promise 7: back

    private static void backBeyond() {
        Edge edge = edge("back. BEYOND: no such act, or YEAR is ahead of its.", Edge.RICH);
        for (int act : Edge.NO_ACTS) {
            edge.refused("back(" + act + ", 1999)", Due.BEYOND);
        }
        for (int year : new int[] {1199, 1000, 999, 0, 2000, Edge.LEAST, Edge.MOST}) {
            edge.refused("back(3, " + year + ")", Due.BEYOND);
        }
        edge.refused("back(4, 1249)", Due.BEYOND).refused("back(6, 1299)", Due.BEYOND);
        edge.refused("back(4, 2000)", Due.BEYOND);
        edge.taken("back(3, 1200)", 7).taken("who(1, 1200)", 0).taken("back(3, 1999)", 8);
        edge.taken("back(0, 1100)", 9).taken("who(1, 1100)", 10).refused("back(10, 1999)", Due.BEYOND);
        edge.taken("found(4, 1000, 0x1)", 10).refused("back(10, 999)", Due.BEYOND).taken("back(10, 1000)", 11);
        edge.taken("found(4, 1999, 0x1)", 12).refused("back(12, 1998)", Due.BEYOND);
        edge.refused("back(12, 2000)", Due.BEYOND).taken("back(12, 1999)", 13);
    }

    private static void backKind() {
        Edge edge = edge("back. KIND: it is no FOUND, MOVE, or SWALLOW.", Edge.RICH);
        edge.refused("back(4, 1250)", Due.KIND).refused("back(4, 1999)", Due.KIND);
        edge.refused("back(6, 1300)", Due.KIND).refused("back(6, 1999)", Due.KIND);
        edge.taken("back(0, 1999)", 7).taken("back(3, 1999)", 8).taken("back(5, 1999)", 9);
        edge.refused("back(9, 1999)", Due.KIND);
    }

    private static void backFull() {
        Edge edge = fullOfActs("back. FULL.");
        edge.refused("back(3, 1999)", Due.FULL).refused("back(29, 1999)", Due.FULL);
        edge.refused("back(4, 1999)", Due.KIND).refused("back(6, 1999)", Due.KIND);
        edge.refused("back(30, 1999)", Due.BEYOND).refused("back(3, 1199)", Due.BEYOND);
        edge.taken("untell()", 29).refused("back(29, 1999)", Due.BEYOND).taken("back(28, 1999)", 29);
    }

    // ---- Promise 8: join

    private static void joinBeyond() {
        Edge edge = edge("join. BEYOND: no such unit (either), or YEAR.", Edge.RICH);
        for (int unit : Edge.NO_UNITS) {
            edge.refused("join(" + unit + ", 3, 1500)", Due.BEYOND);
            edge.refused("join(0, " + unit + ", 1500)", Due.BEYOND);
            edge.refused("join(3, " + unit + ", 1500)", Due.BEYOND);
            edge.refused("join(" + unit + ", 0, 1500)", Due.BEYOND);
        }
        for (int year : Edge.NO_YEARS) {
            edge.refused("join(0, 3, " + year + ")", Due.BEYOND);
            edge.refused("join(3, 0, " + year + ")", Due.BEYOND);
        }
        edge.taken("join(0, 5, 1999)", 7).taken("under(0, 1999)", 5).refused("under(0, 1998)", Due.NONE);
        edge.taken("join(4, 3, 1000)", 8).taken("act(8, 2)", 1);
    }

    private static void joinKind() {
        Edge edge = edge("join. KIND: the first is a HUNDRED, or the second none.", Edge.RICH);
        edge.refused("join(3, 5, 1500)", Due.KIND).refused("join(3, 3, 1500)", Due.KIND);
        edge.refused("join(0, 1, 1500)", Due.KIND).refused("join(0, 0, 1500)", Due.KIND);
        edge.refused("join(0, 2, 1500)", Due.KIND).refused("join(1, 4, 1500)", Due.KIND);
        edge.refused("join(3, 0, 1500)", Due.KIND);
        edge.taken("join(0, 3, 1500)", 7).taken("join(1, 5, 1500)", 8).taken("join(2, 5, 1500)", 9);
    }

    private static void joinFull() {
        Edge edge = fullOfActs("join. FULL.");
        edge.refused("join(0, 3, 1500)", Due.FULL).refused("join(4, 5, 1500)", Due.FULL);
        edge.refused("join(3, 5, 1500)", Due.KIND).refused("join(0, 1, 1500)", Due.KIND);
        edge.refused("join(0, 6, 1500)", Due.BEYOND).refused("join(0, 3, 2000)", Due.BEYOND);
        edge.taken("untell()", 29).taken("join(0, 3, 1500)", 29).taken("under(0, 1500)", 3);
    }

    // ---- Promise 9: act

    private static void actKindsAndYears() {
        Edge edge = edge("Of an act: 0 its kind (0 FOUND, 1 MOVE, 2 SWALLOW, 3 BACK, 4 JOIN), 1 YEAR", Edge.RICH);
        int[] kinds = {0, 0, 0, 1, 4, 2, 3};
        int[] years = {1100, 1100, 1150, 1200, 1250, 1260, 1300};
        for (int act = 0; act < 7; act++) {
            edge.taken("act(" + act + ", 0)", kinds[act]).taken("act(" + act + ", 1)", years[act]);
        }
        edge.taken("found(0, 1000, 0x0)", 7).taken("found(0, 1999, 0x0)", 8);
        edge.taken("act(7, 1)", 1000).taken("act(8, 1)", 1999);
    }

    private static void actVoid() {
        Edge edge = edge("2 whether it is VOID (1, 0)", Edge.RICH);
        for (int act = 0; act < 7; act++) {
            edge.taken("act(" + act + ", 2)", act == 5 ? 1 : 0);
        }
        edge.taken("found(4, 1259, 0x0)", 7).taken("act(5, 2)", 0).taken("act(6, 2)", 1);
        edge.taken("untell()", 7).taken("act(5, 2)", 1).taken("act(6, 2)", 0);
    }

    private static void actCells() {
        Edge edge = edge("3 how many cells came to another holder by it", Edge.KINDS);
        edge.taken("found(0, 1100, 0xfffffffff)", 0).taken("act(0, 3)", 36);
        edge.taken("found(0, 1200, 0xfffffffff)", 1).taken("act(1, 3)", 0);
        edge.taken("found(1, 1200, 0x0)", 2).taken("act(2, 3)", 0);
        edge.taken("move(0, 1, 1300, 0xffffffffe)", 3).taken("act(3, 3)", 35);
        edge.taken("move(0, 1, 1300, 0x2)", 4).taken("act(4, 3)", 0);
        edge.taken("swallow(0, 1, 1400)", 5).taken("act(5, 3)", 1);
        edge.taken("join(1, 3, 1500)", 6).taken("act(6, 3)", 0);
        edge.taken("back(5, 1600)", 7).taken("act(7, 3)", 0);
        edge.taken("back(3, 1350)", 8).taken("act(8, 3)", 35).taken("act(5, 3)", 36);
        edge.taken("back(0, 1360)", 9).taken("act(9, 3)", 36).taken("act(5, 3)", 0);
    }

    private static void actPlaces() {
        Edge edge = edge("4 its place in the order in which acts are done", Edge.KINDS);
        for (int act = 0; act < 30; act++) {
            edge.taken("found(0, " + (1999 - act) + ", 0x1)", act).taken("act(" + act + ", 4)", 0);
        }
        edge.taken("act(0, 4)", 29).taken("act(1, 4)", 28).taken("act(28, 4)", 1);
        edge.taken("untell()", 29).taken("act(28, 4)", 0).taken("act(0, 4)", 28);
        edge.taken("found(0, 1999, 0x1)", 29).taken("act(29, 4)", 29).taken("act(0, 4)", 28);
    }

    private static void actBeyond() {
        Edge edge = edge("act. BEYOND: no such act, or another what.", Edge.RICH);
        for (int act : Edge.NO_ACTS) {
            for (int what = 0; what < 5; what++) {
                edge.refused("act(" + act + ", " + what + ")", Due.BEYOND);
            }
        }
        for (int what : new int[] {-1, 5, Edge.LEAST, Edge.MOST}) {
            edge.refused("act(0, " + what + ")", Due.BEYOND).refused("act(6, " + what + ")", Due.BEYOND);
        }
        edge.taken("act(6, 0)", 3).taken("act(6, 4)", 6).taken("act(0, 0)", 0).taken("act(0, 4)", 0);
        fullOfActs("act. BEYOND: no such act").taken("act(29, 4)", 29).refused("act(30, 4)", Due.BEYOND);
    }

    // ---- Promise 10: untell

    private static void untellCounts() {
        Edge edge = fullOfActs("The latest act, by number, is taken out: how many there are.");
        for (int left = 29; left >= 7; left--) {
            edge.taken("untell()", left).taken("told(1)", left).refused("act(" + left + ", 0)", Due.BEYOND);
        }
        edge.taken("who(1, 1300)", 0).taken("untell()", 6).taken("who(1, 1300)", 1);
        edge.taken("untell()", 5).taken("told(2)", 0).taken("under(1, 1999)", 3);
        edge.taken("untell()", 4).refused("under(1, 1999)", Due.NONE);
        edge.taken("untell()", 3).taken("who(1, 1999)", 0).taken("who(0, 1999)", 2);
        edge.taken("untell()", 2).taken("who(0, 1999)", 0).taken("there(2, 1999)", 0);
        edge.taken("untell()", 1).taken("there(1, 1999)", 0).taken("there(0, 1999)", 1);
        edge.taken("untell()", 0).taken("there(0, 1999)", 0).refused("untell()", Due.NONE);
        edge.taken("told(0)", 6).taken("told(3)", 3).taken("read(0, 1)", 3);
    }

    private static void untellNone() {
        Edge edge = edge("untell. NONE.").refused("untell()", Due.NONE).done(Edge.KINDS).refused("untell()", Due.NONE);
        edge.taken("found(0, 1500, 0x1)", 0).taken("untell()", 0).refused("untell()", Due.NONE);
        edge.taken("told(4)", 3).taken("found(1, 1500, 0x1)", 0).taken("who(0, 1500)", 1);
    }
}
