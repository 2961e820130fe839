/** 'Terms', points 1 to 6: a test for each sentence that names an edge. */
public final class TermsEdgesTest {
    private static final Due DUE = new Due();
    private static final long[] SETS = {0, 1, Due.set(35), Due.set(5, 6), Due.FIELD - 1, Due.FIELD};

    public static void main(String[] args) {
        findingValues();
        the512thCall();
        findingsInOrder();
        findingsChangeNothing();
        setsByBits();
        cellsInRows();
        besideNoWrap();
        unitsAtMostTen();
        kindsUnder();
        yearsOfActs();
        yearsOfQuestions();
        actsAtMostThirty();
        actsInAnyOrder();
        doneByYear();
        doneByNumber();
        atFirstNobody();
        foundNoHundred();
        foundHoldsThem();
        foundTakesFromOthers();
        foundVoid();
        moveOnlyWhatIsHeld();
        moveVoidNotThere();
        moveVoidHoldsNone();
        swallowAll();
        swallowEmpty();
        swallowVoidNotThere();
        swallowVoidTown();
        backOfEach();
        backToNobody();
        backOnlyIfHeld();
        backOnlyIfThere();
        backVoid();
        joinFromThenOn();
        joinUnderNoOther();
        joinVoid();
        joinEndsWithTheUnit();
        atAYearUpToAndOfIt();
        hundredAlwaysThere();
        hundredHolds();
        DUE.end();
    }

    private static Edge edge(String sentence, String... opening) {
        return new Edge(DUE, sentence, opening);
    }

    // ---- FINDINGS

    private static void findingValues() {
        Edge edge = edge("LOW is -1000000000000000000; LOW - 1 BEYOND, LOW - 2 MISSING, LOW - 3 SIZE, LOW - 4 KIND, "
            + "LOW - 5 FULL, LOW - 6 NONE", "unit(0)");
        for (int unit = 1; unit < 10; unit++) {
            edge.done("unit(0)");
        }
        edge.refused("unit(4)", -1000000000000000001L).refused("put(0, 0, 0)", -1000000000000000002L);
        edge.refused("sheet(0, 8, -1)", -1000000000000000003L).refused("as(0, 1)", -1000000000000000004L);
        edge.refused("unit(0)", -1000000000000000005L).refused("untell()", -1000000000000000006L);
    }

    private static void findingsInOrder() {
        Edge edge = edge("Each act tells its findings in the order in which they are asked", Edge.RICH);
        edge.refused("as(0, 4)", Due.BEYOND).refused("found(3, 999, 0x1)", Due.BEYOND);
        edge.refused("move(3, 3, 2000, 0x1)", Due.BEYOND).refused("move(3, 3, 1500, 0x1)", Due.KIND);
        edge.refused("swallow(5, 5, 2000)", Due.BEYOND).refused("swallow(5, 5, 1500)", Due.KIND);
        edge.refused("back(4, 1249)", Due.BEYOND).refused("join(3, 3, 999)", Due.BEYOND);
        edge.refused("under(3, 999)", Due.BEYOND).refused("led(0, 0, 999)", Due.BEYOND);
        edge.refused("led(0, 0, 1000)", Due.SIZE).refused("claim(0, 36, 3)", Due.BEYOND);
        edge.refused("count(3, 1100, 1000001)", Due.BEYOND).refused("sheet(4, 8, -1)", Due.BEYOND);
        edge.refused("put(4, -1, 0)", Due.BEYOND).refused("put(3, -1, 0)", Due.MISSING);
        edge.refused("copy(3, -1, 4, 0, 0)", Due.BEYOND).refused("copy(3, -1, 0, 0, 0)", Due.MISSING);
        edge.refused("copy(0, -1, 1, 0, 0)", Due.KIND).refused("lay(4, 3)", Due.BEYOND);
        for (int unit = 6; unit < 10; unit++) {
            edge.done("unit(0)");
        }
        for (int count = 3; count < 20; count++) {
            edge.done("count(0, 1999, 1)");
        }
        for (int act = 7; act < 30; act++) {
            edge.done("found(0, 1999, 0x1)");
        }
        edge.refused("unit(4)", Due.BEYOND).refused("count(3, 1100, 1)", Due.KIND);
        edge.refused("count(0, 1100, -1)", Due.BEYOND);
        edge.refused("found(3, 1500, 0x1)", Due.KIND).refused("found(0, 1500, -1)", Due.BEYOND);
        edge.refused("move(0, 0, 1500, 0x1)", Due.SIZE).refused("swallow(0, 0, 1500)", Due.SIZE);
        edge.refused("back(4, 1999)", Due.KIND).refused("join(0, 0, 1500)", Due.KIND);
    }

    private static void findingsChangeNothing() {
        Edge edge = edge("an act that answers a finding changes nothing", Edge.RICH);
        edge.refused("unit(4)", Due.BEYOND).refused("as(0, 1)", Due.KIND).refused("found(3, 1500, 0x1)", Due.KIND);
        edge.refused("move(0, 0, 1500, 0x1)", Due.SIZE).refused("swallow(0, 3, 1500)", Due.KIND);
        edge.refused("back(3, 1199)", Due.BEYOND).refused("join(0, 1, 1500)", Due.KIND);
        edge.refused("act(7, 0)", Due.BEYOND).refused("who(36, 1500)", Due.BEYOND);
        edge.refused("there(6, 1500)", Due.BEYOND);
        edge.refused("cells(0, 999)", Due.BEYOND).refused("shape(0, 1500, 3)", Due.BEYOND);
        edge.refused("under(0, 1500)", Due.NONE).refused("led(34, 35, 1500)", Due.NONE);
        edge.refused("borders(2000)", Due.BEYOND).refused("changes(4, 1000)", Due.NONE);
        edge.refused("map(0, 999)", Due.BEYOND).refused("claim(0, 1, 3)", Due.KIND).refused("read(0, 4)", Due.BEYOND);
        edge.refused("best(0, 1500, 1499)", Due.BEYOND).refused("quarrel(2, 3)", Due.NONE);
        edge.refused("count(3, 1100, 1)", Due.KIND).refused("carried(1100, 6, 1200, true)", Due.BEYOND);
        edge.refused("people(999)", Due.BEYOND).refused("sheet(0, 8, 37)", Due.BEYOND);
        edge.refused("put(3, 0, 0)", Due.MISSING);
        edge.refused("copy(0, 0, 1, 0, 1)", Due.KIND).refused("lay(0, 3)", Due.MISSING).refused("told(5)", Due.BEYOND);
        edge.taken("told(4)", 29);
    }

    private static void the512thCall() {
        Edge edge = edge("An object is used for at most 512 calls", "unit(0)", "unit(3)", "found(0, 1500, 0x1)");
        for (int call = 4; call < 510; call++) {
            edge.taken("told(5)", Due.BEYOND);
        }
        edge.taken("told(4)", 506).taken("join(0, 1, 1500)", 1).taken("cells(1, 1500)", 1);
    }

    private static void setsByBits() {
        for (int cell = 0; cell < 36; cell++) {
            Edge edge = edge("A set of CELLS is told by bits.", Edge.KINDS);
            edge.taken("found(0, 1500, " + (1L << cell) + ")", 0).taken("cells(0, 1500)", 1L << cell);
            for (int other = 0; other < 36; other++) {
                edge.taken("who(" + other + ", 1500)", other == cell ? 0 : 10);
            }
        }
        for (long set : SETS) {
            edge("A set of CELLS is told by bits.", Edge.KINDS).taken("found(0, 1500, " + set + ")", 0)
                .taken("cells(0, 1500)", set).taken("act(0, 3)", Long.bitCount(set));
        }
    }

    // ---- 1. CELLS, UNITS, YEARS

    private static void cellsInRows() {
        Edge edge = edge("CELLS 0 to 35 lie in six rows of six (cell 6 r + c).", Edge.KINDS);
        edge.taken("who(0, 1000)", 10).taken("who(35, 1000)", 10);
        edge.refused("who(-1, 1000)", Due.BEYOND).refused("who(36, 1000)", Due.BEYOND);
        for (int row = 0; row < 6; row++) {
            edge.taken("found(0, " + (1100 + 2 * row) + ", " + (63L << 6 * row) + ")", 3 * row);
            edge.taken("shape(0, " + (1100 + 2 * row) + ", 1)", 1).taken("shape(0, " + (1100 + 2 * row) + ", 2)", 14);
            edge.taken("found(1, " + (1101 + 2 * row) + ", 0x0)", 3 * row + 1);
            edge.taken("swallow(0, 1, " + (1101 + 2 * row) + ")", 3 * row + 2);
            edge.taken("shape(1, " + (1101 + 2 * row) + ", 2)", 14 + 2 * row);
        }
    }

    /** Of every two cells, whether they are beside one another: a border can be LED, or it is SIZE. */
    private static void besideNoWrap() {
        for (int cell = 0; cell < 36; cell++) {
            Edge edge = edge("Beside a cell are those next to it in its row or column.", Edge.KINDS);
            edge.done("found(0, 1500, " + (1L << cell) + ")");
            int count = 0;
            for (int other = 0; other < 36; other++) {
                int rows = Math.abs(cell / 6 - other / 6);
                int columns = Math.abs(cell % 6 - other % 6);
                boolean beside = rows + columns == 1;
                count += beside ? 1 : 0;
                edge.taken("led(" + cell + ", " + other + ", 1500)", beside ? 0 : Due.SIZE);
                edge.taken("led(" + other + ", " + cell + ", 1500)", beside ? 0 : Due.SIZE);
            }
            edge.taken("borders(1500)", count);
        }
    }

    private static void unitsAtMostTen() {
        Edge edge = edge("UNITS 0, 1, .. (at most 10)");
        edge.refused("there(0, 1000)", Due.BEYOND);
        for (int unit = 0; unit < 10; unit++) {
            edge.refused("cells(" + unit + ", 1000)", Due.BEYOND).taken("unit(0)", unit);
            edge.taken("cells(" + unit + ", 1000)", 0);
        }
        edge.refused("unit(0)", Due.FULL).refused("cells(10, 1000)", Due.BEYOND).taken("told(0)", 10);
        for (int unit = 0; unit < 10; unit++) {
            edge.taken("found(" + unit + ", 1000, " + (1L << unit) + ")", unit).taken("who(" + unit + ", 1000)", unit);
        }
    }

    private static void kindsUnder() {
        Edge edge = edge("of a kind: 0 UNIT, 1 PARISH under it, 2 TOWN under PARISH, 3 HUNDRED under UNIT");
        edge.refused("unit(-1)", Due.BEYOND).refused("unit(4)", Due.BEYOND).done(Edge.KINDS);
        int[][] fits = {{1, 0, 0, 0}, {1, 1, 0, 0}, {1, 1, 1, 0}, {1, 0, 0, 1}};
        for (int unit = 0; unit < 4; unit++) {
            for (int kind = 0; kind < 4; kind++) {
                edge.taken("as(" + unit + ", " + kind + ")", fits[unit][kind] == 1 ? unit : Due.KIND);
            }
        }
    }

    private static void yearsOfActs() {
        String[] calls = {"found(4, %d, 0x1)", "move(0, 1, %d, 0x1)", "swallow(0, 1, %d)", "join(0, 3, %d)"};
        for (String call : calls) {
            Edge edge = edge("YEARS are 1000 to 1999.", Edge.RICH);
            edge.refused(String.format(call, 999), Due.BEYOND).refused(String.format(call, 2000), Due.BEYOND);
            edge.taken(String.format(call, 1000), 7).taken("act(7, 1)", 1000);
            edge.taken(String.format(call, 1999), 8).taken("act(8, 1)", 1999);
        }
        Edge edge = edge("YEARS are 1000 to 1999.", Edge.RICH).done("found(4, 1000, 0x1)");
        edge.refused("back(7, 999)", Due.BEYOND).refused("back(7, 2000)", Due.BEYOND);
        edge.taken("back(7, 1000)", 8).taken("back(7, 1999)", 9);
    }

    private static void yearsOfQuestions() {
        Edge edge = edge("YEARS are 1000 to 1999.", Edge.RICH);
        edge.done("unit(0)", "found(6, 1000, 0x800000000)", "join(6, 5, 1000)");
        String[] calls = {"who(35, %d)", "there(6, %d)", "cells(6, %d)", "shape(6, %d, 0)", "under(6, %d)",
            "led(34, 35, %d)", "borders(%d)", "people(%d)", "carried(%d, 0, 1100, false)",
            "carried(1100, 0, %d, false)", "best(3, %d, 1999)", "best(3, 1000, %d)"};
        long[] first = {6, 1, Due.set(35), 1, 5, 7, 2, 0, 0, 0, 1000, 1000};
        long[] last = {6, 1, Due.set(35), 1, 5, 7, 15, 0, 0, 50, 1999, 1000};
        for (int i = 0; i < calls.length; i++) {
            edge.refused(String.format(calls[i], 999), Due.BEYOND).refused(String.format(calls[i], 2000), Due.BEYOND);
            edge.taken(String.format(calls[i], 1000), first[i]).taken(String.format(calls[i], 1999), last[i]);
        }
        edge.refused("changes(6, 999)", Due.BEYOND).refused("changes(6, 2000)", Due.BEYOND);
        edge.taken("changes(6, 1000)", 1000).refused("changes(6, 1999)", Due.NONE);
        edge.refused("map(0, 999)", Due.BEYOND).refused("map(0, 2000)", Due.BEYOND);
        edge.taken("map(0, 1000)", 1200).taken("map(0, 1999)", 1000);
        edge.refused("count(0, 999, 1)", Due.BEYOND).refused("count(0, 2000, 1)", Due.BEYOND);
        edge.taken("count(0, 1000, 1)", 4).taken("count(0, 1999, 1)", 5);
    }

    // ---- 2. ACTS

    private static void actsAtMostThirty() {
        Edge edge = edge("ACTS 0, 1, .. (at most 30)", Edge.KINDS);
        String[] calls = {"found(0, 1500, 0x1)", "move(0, 1, 1500, 0x1)", "swallow(0, 1, 1500)", "back(0, 1500)",
            "join(0, 3, 1500)"};
        for (int act = 0; act < 30; act++) {
            edge.taken(calls[act % 5], act).taken("told(1)", act + 1).taken("act(" + act + ", 0)", act % 5);
        }
        for (String call : calls) {
            edge.refused(call, Due.FULL);
        }
        edge.taken("told(1)", 30).taken("untell()", 29).taken("join(0, 3, 1500)", 29);
        edge.refused("join(0, 3, 1500)", Due.FULL);
    }

    private static void actsInAnyOrder() {
        String[][] orders = {
            {"found(0, 1000, 0x3)", "found(1, 1500, 0x4)", "move(0, 1, 1999, 0x1)"},
            {"move(0, 1, 1999, 0x1)", "found(1, 1500, 0x4)", "found(0, 1000, 0x3)"},
            {"found(1, 1500, 0x4)", "move(0, 1, 1999, 0x1)", "found(0, 1000, 0x3)"}};
        for (String[] order : orders) {
            Edge edge = edge("[ACTS] are told in any order; each has a YEAR.", Edge.KINDS).done(order);
            edge.taken("told(2)", 0).taken("cells(0, 1998)", 3).taken("cells(0, 1999)", 2).taken("cells(1, 1999)", 5);
        }
    }

    private static void doneByYear() {
        Edge edge = edge("They are done by YEAR", Edge.KINDS);
        edge.done("found(0, 1001, 0x1)", "found(1, 1000, 0x1)", "found(2, 1999, 0x1)");
        edge.taken("act(0, 4)", 1).taken("act(1, 4)", 0).taken("act(2, 4)", 2);
        edge.taken("who(0, 1000)", 1).taken("who(0, 1001)", 0).taken("who(0, 1998)", 0).taken("who(0, 1999)", 2);
    }

    private static void doneByNumber() {
        Edge edge = edge("of one YEAR by number", Edge.KINDS);
        edge.done("found(0, 1500, 0x1)", "found(1, 1500, 0x1)", "found(2, 1500, 0x1)").taken("who(0, 1500)", 2);
        edge.taken("who(0, 1499)", 10).taken("move(0, 1, 1499, 0x1)", 3).taken("act(3, 4)", 0).taken("act(3, 2)", 1);
        edge.taken("move(2, 0, 1500, 0x1)", 4).taken("act(4, 4)", 4).taken("act(4, 2)", 0).taken("who(0, 1500)", 0);
        edge.taken("found(1, 1501, 0x0)", 5).taken("swallow(1, 0, 1500)", 6);
        edge.taken("act(6, 4)", 5).taken("act(5, 4)", 6).taken("act(5, 2)", 0).taken("there(1, 1500)", 0);
    }

    private static void atFirstNobody() {
        Edge edge = edge("At first no unit is THERE, no cell is held.", Edge.KINDS);
        for (int unit = 0; unit < 3; unit++) {
            edge.taken("there(" + unit + ", 1000)", 0).taken("there(" + unit + ", 1999)", 0);
            edge.taken("cells(" + unit + ", 1999)", 0).refused("under(" + unit + ", 1999)", Due.NONE);
        }
        for (int cell = 0; cell < 36; cell++) {
            edge.taken("who(" + cell + ", 1999)", 10);
        }
        edge.taken("borders(1999)", 0).done("found(0, 1500, 0xfffffffff)").taken("there(0, 1499)", 0);
        edge.taken("who(0, 1499)", 10).taken("who(35, 1499)", 10);
    }

    private static void foundNoHundred() {
        Edge edge = edge("FOUND a unit (no HUNDRED)", Edge.KINDS).refused("found(3, 1500, 0x1)", Due.KIND);
        for (int unit = 0; unit < 3; unit++) {
            edge.taken("found(" + unit + ", 1500, 0x1)", unit).taken("there(" + unit + ", 1500)", 1);
        }
    }

    private static void foundHoldsThem() {
        for (long set : SETS) {
            Edge edge = edge("it is THERE, and holds them", Edge.KINDS).done("found(0, 1500, " + set + ")");
            edge.taken("there(0, 1500)", 1).taken("cells(0, 1500)", set).taken("act(0, 2)", 0);
            edge.taken("there(0, 1499)", 0).taken("cells(0, 1499)", 0);
        }
    }

    private static void foundTakesFromOthers() {
        for (long set : SETS) {
            Edge edge = edge("(whoever held them does no more)", Edge.KINDS).done("found(0, 1500, 0xfffffffff)");
            edge.taken("found(1, 1600, " + set + ")", 1).taken("cells(1, 1600)", set);
            edge.taken("cells(0, 1600)", Due.FIELD - set).taken("there(0, 1600)", 1).taken("cells(0, 1599)", Due.FIELD);
        }
    }

    private static void foundVoid() {
        Edge edge = edge("FOUND. VOID if it is THERE.", Edge.KINDS);
        edge.done("found(0, 1500, 0x0)", "found(0, 1500, 0x1)").taken("act(0, 2)", 0).taken("act(1, 2)", 1);
        edge.taken("cells(0, 1999)", 0).done("found(0, 1499, 0x2)").taken("act(2, 2)", 0).taken("act(0, 2)", 1);
        edge.taken("cells(0, 1500)", 2).done("found(1, 1000, 0x0)", "swallow(0, 1, 1499)").taken("act(0, 2)", 0);
        edge.taken("act(1, 2)", 1).taken("there(0, 1499)", 0).taken("there(0, 1500)", 1);
    }

    private static void moveOnlyWhatIsHeld() {
        for (long set : SETS) {
            Edge edge = edge("those of the set that the first one holds are held by the second", Edge.KINDS);
            edge.done("found(0, 1100, 0xfffffff00)", "found(1, 1100, 0x1)", "found(2, 1100, 0x2)");
            long moved = set & 0xfffffff00L;
            edge.taken("move(0, 1, 1500, " + set + ")", 3).taken("act(3, 3)", Long.bitCount(moved));
            edge.taken("act(3, 2)", moved == 0 ? 1 : 0).taken("cells(0, 1500)", 0xfffffff00L - moved);
            edge.taken("cells(1, 1500)", 1 + moved).taken("cells(2, 1500)", 2).taken("who(2, 1500)", 10);
            edge.taken("there(0, 1500)", 1);
        }
    }

    private static void moveVoidNotThere() {
        Edge edge = edge("MOVE. VOID if one of both is not THERE", Edge.KINDS).done("found(0, 1500, 0x3)");
        edge.done("move(0, 1, 1500, 0x1)", "move(1, 0, 1500, 0x1)", "move(1, 2, 1500, 0x1)", "move(0, 1, 1499, 0x1)");
        edge.taken("told(2)", 4).taken("cells(0, 1999)", 3).taken("cells(1, 1999)", 0);
        edge.done("found(1, 1500, 0x0)", "move(0, 1, 1500, 0x1)").taken("act(6, 2)", 0).taken("cells(1, 1500)", 1);
        edge.taken("told(2)", 4).done("swallow(1, 0, 1600)", "move(0, 1, 1601, 0x1)").taken("act(8, 2)", 1);
        edge.done("move(1, 0, 1599, 0x1)", "move(1, 0, 1600, 0x1)").taken("act(9, 2)", 0).taken("act(10, 2)", 1);
    }

    private static void moveVoidHoldsNone() {
        Edge edge = edge("MOVE. VOID if .. the first one holds none of the set", Edge.KINDS);
        edge.done("found(0, 1500, 0x3)", "found(1, 1500, 0x4)");
        edge.done("move(0, 1, 1500, 0x0)", "move(0, 1, 1500, 0x4)", "move(0, 1, 1500, 0xffffffffc)");
        edge.taken("told(2)", 3).done("move(0, 1, 1500, 0xffffffffe)").taken("act(5, 2)", 0).taken("act(5, 3)", 1);
        edge.done("move(0, 1, 1500, 0xfffffffff)").taken("act(6, 2)", 0).done("move(0, 1, 1999, 0xfffffffff)");
        edge.taken("act(7, 2)", 1).taken("cells(0, 1999)", 0).taken("cells(1, 1999)", 7);
    }

    private static void swallowAll() {
        for (long set : SETS) {
            Edge edge = edge("SWALLOW: the second holds all that the first one held, and that is not THERE any more",
                Edge.KINDS);
            edge.done("found(1, 1100, 0x3)", "found(0, 1200, " + set + ")", "swallow(0, 1, 1500)");
            edge.taken("act(2, 2)", 0).taken("act(2, 3)", Long.bitCount(set)).taken("cells(1, 1500)", set | 3);
            edge.taken("cells(0, 1500)", 0).taken("there(0, 1500)", 0).taken("there(0, 1499)", 1);
            edge.taken("there(1, 1500)", 1).taken("there(2, 1500)", 0);
        }
    }

    private static void swallowEmpty() {
        Edge edge = edge("SWALLOW of one that holds nothing is not VOID", Edge.KINDS);
        edge.done("found(0, 1500, 0x0)", "found(1, 1500, 0x0)", "swallow(0, 1, 1500)").taken("act(2, 2)", 0);
        edge.taken("act(2, 3)", 0).taken("there(0, 1500)", 0).done("swallow(0, 1, 1500)").taken("act(3, 2)", 1);
    }

    private static void swallowVoidNotThere() {
        Edge edge = edge("SWALLOW. VOID if one of both is not THERE", Edge.KINDS).done("found(0, 1500, 0x3)");
        edge.done("swallow(0, 1, 1500)", "swallow(1, 0, 1500)", "swallow(1, 2, 1500)", "swallow(0, 1, 1499)");
        edge.taken("told(2)", 4).taken("cells(0, 1999)", 3).taken("there(0, 1999)", 1).taken("there(1, 1999)", 0);
        edge.done("found(1, 1600, 0x0)", "swallow(0, 1, 1599)").taken("act(6, 2)", 1);
        edge.done("swallow(0, 1, 1600)").taken("act(7, 2)", 0).taken("cells(1, 1600)", 3);
    }

    private static void swallowVoidTown() {
        Edge edge = edge("SWALLOW. VOID if .. the first one is a TOWN", Edge.KINDS);
        edge.done("found(0, 1500, 0x1)", "found(1, 1500, 0x2)", "found(2, 1500, 0x4)");
        edge.done("swallow(2, 0, 1500)", "swallow(2, 1, 1500)").taken("told(2)", 2).taken("cells(2, 1999)", 4);
        edge.taken("there(2, 1999)", 1).done("swallow(1, 2, 1500)").taken("act(5, 2)", 0).taken("cells(2, 1500)", 6);
        edge.done("swallow(0, 2, 1500)").taken("act(6, 2)", 0).taken("cells(2, 1500)", 7).taken("told(2)", 2);
    }

    private static void backOfEach() {
        Edge edge = edge("BACK: another act, done ahead of it, is turned back", Edge.KINDS);
        edge.done("found(0, 1500, 0x3)", "found(1, 1500, 0x4)", "move(0, 1, 1500, 0x1)", "back(2, 1500)");
        edge.taken("cells(0, 1500)", 3).taken("act(3, 2)", 0).taken("act(3, 3)", 1);
        edge.done("found(2, 1999, 0x1)", "back(4, 1999)").taken("cells(0, 1999)", 3).taken("act(5, 3)", 1);
        edge.taken("there(2, 1999)", 1).done("swallow(0, 1, 1600)", "found(0, 1600, 0x800000000)", "back(6, 1600)");
        edge.taken("act(8, 3)", 2).taken("cells(0, 1600)", Due.set(0, 1, 35)).taken("cells(1, 1600)", 4);
    }

    private static void backToNobody() {
        for (long set : SETS) {
            Edge edge = edge("are held by whom they were held ahead of it (by nobody, if so)", Edge.KINDS);
            edge.done("found(0, 1500, " + set + ")", "back(0, 1500)").taken("cells(0, 1500)", 0);
            edge.taken("act(1, 2)", set == 0 ? 1 : 0).taken("act(1, 3)", Long.bitCount(set));
            edge.taken("there(0, 1500)", 1).taken("who(0, 1500)", 10).taken("who(35, 1500)", 10);
        }
    }

    private static void backOnlyIfHeld() {
        Edge edge = edge("cells that changed by it, and are held by whom it gave them", Edge.KINDS);
        edge.done("found(0, 1100, 0x7)", "found(1, 1100, 0x38)", "found(2, 1100, 0x0)", "move(0, 1, 1200, 0x3)");
        edge.done("move(1, 2, 1300, 0xa)", "back(3, 1400)").taken("act(5, 3)", 1).taken("cells(0, 1400)", 5);
        edge.taken("cells(1, 1400)", 0x30).taken("cells(2, 1400)", 0xa);
        edge.done("move(2, 1, 1350, 0x2)").taken("act(5, 3)", 2).taken("cells(0, 1400)", 7);
        edge.done("back(3, 1400)").taken("act(7, 2)", 1);
    }

    private static void backOnlyIfThere() {
        Edge edge = edge("if that one is THERE (or it was nobody)", Edge.KINDS);
        edge.done("found(0, 1100, 0x1)", "found(1, 1100, 0x2)", "found(2, 1200, 0x7)", "swallow(0, 1, 1300)");
        edge.done("back(2, 1400)").taken("act(4, 3)", 2).taken("who(0, 1400)", 2).taken("who(1, 1400)", 1);
        edge.taken("who(2, 1400)", 10).done("found(0, 1400, 0x0)").taken("act(4, 3)", 2);
        edge.done("found(0, 1399, 0x0)").taken("act(4, 3)", 3).taken("who(0, 1400)", 0).taken("act(5, 2)", 1);
    }

    private static void backVoid() {
        Edge edge = edge("BACK. VOID if no cell does.", Edge.KINDS);
        edge.done("found(0, 1500, 0x1)", "found(0, 1500, 0x2)", "found(1, 1500, 0x0)", "move(1, 0, 1500, 0x1)");
        edge.done("swallow(1, 0, 1600)", "back(1, 1999)", "back(2, 1999)", "back(3, 1999)", "back(4, 1999)");
        for (int act = 5; act < 9; act++) {
            edge.taken("act(" + act + ", 2)", 1).taken("act(" + act + ", 3)", 0);
        }
        edge.done("back(0, 1999)").taken("act(9, 2)", 0).done("back(0, 1999)").taken("act(10, 2)", 1);
    }

    private static void joinFromThenOn() {
        Edge edge = edge("JOIN a unit (no HUNDRED) to a HUNDRED: it is under it from then on", Edge.KINDS);
        edge.refused("join(3, 3, 1500)", Due.KIND).refused("join(0, 1, 1500)", Due.KIND);
        edge.done("found(0, 1000, 0x1)", "join(0, 3, 1500)").refused("under(0, 1499)", Due.NONE);
        edge.taken("under(0, 1500)", 3).taken("under(0, 1999)", 3).taken("act(1, 2)", 0).taken("act(1, 3)", 0);
    }

    private static void joinUnderNoOther() {
        Edge edge = edge("(and under no other one)", Edge.KINDS).done("unit(3)", "found(0, 1000, 0x1)");
        edge.done("join(0, 3, 1500)", "join(0, 4, 1500)").taken("under(0, 1500)", 4).taken("cells(3, 1500)", 0);
        edge.taken("cells(4, 1500)", 1).done("join(0, 3, 1999)").taken("under(0, 1998)", 4).taken("under(0, 1999)", 3);
        edge.taken("cells(4, 1999)", 0).taken("cells(3, 1999)", 1);
    }

    private static void joinVoid() {
        Edge edge = edge("JOIN. VOID if the unit is not THERE.", Edge.KINDS).done("join(0, 3, 1500)");
        edge.taken("act(0, 2)", 1).refused("under(0, 1999)", Due.NONE).done("found(0, 1500, 0x1)");
        edge.taken("act(0, 2)", 1);
        edge.done("join(0, 3, 1500)").taken("act(2, 2)", 0).done("untell()", "untell()", "found(0, 1499, 0x1)");
        edge.taken("act(0, 2)", 0).taken("under(0, 1500)", 3);
    }

    private static void joinEndsWithTheUnit() {
        Edge edge = edge("(As a unit is not THERE any more, it is under none.)", Edge.KINDS);
        edge.done("found(0, 1000, 0x1)", "found(1, 1000, 0x2)", "join(0, 3, 1500)", "swallow(0, 1, 1600)");
        edge.taken("under(0, 1599)", 3).refused("under(0, 1600)", Due.NONE).refused("under(1, 1600)", Due.NONE);
        edge.taken("cells(3, 1600)", 0).done("found(0, 1600, 0x4)").refused("under(0, 1600)", Due.NONE);
        edge.taken("cells(3, 1999)", 0).done("join(0, 3, 1600)").taken("under(0, 1600)", 3).taken("cells(3, 1600)", 4);
    }

    private static void atAYearUpToAndOfIt() {
        Edge edge = edge("AT a YEAR is what stands when all acts up to it, and of it, are done.", Edge.KINDS);
        edge.done("found(0, 1000, 0x1)", "found(1, 1500, 0x1)", "move(1, 0, 1500, 0x1)", "found(2, 1999, 0x1)");
        edge.taken("who(0, 1000)", 0).taken("who(0, 1499)", 0).taken("who(0, 1500)", 0).taken("who(0, 1501)", 0);
        edge.taken("there(1, 1499)", 0).taken("there(1, 1500)", 1).taken("who(0, 1998)", 0).taken("who(0, 1999)", 2);
        edge.done("untell()", "untell()").taken("who(0, 1499)", 0).taken("who(0, 1500)", 1).taken("who(0, 1999)", 1);
    }

    private static void hundredAlwaysThere() {
        Edge edge = edge("A HUNDRED is always THERE", Edge.KINDS);
        edge.taken("there(3, 1000)", 1).taken("there(3, 1999)", 1).done("unit(0)", "unit(3)");
        edge.taken("there(5, 1000)", 1);
        edge.refused("swallow(3, 0, 1500)", Due.KIND).taken("there(3, 1500)", 1);
    }

    private static void hundredHolds() {
        Edge edge = edge("and holds at a YEAR what units under it hold", Edge.KINDS);
        edge.taken("cells(3, 1000)", 0).done("found(0, 1100, 0xfffffffff)", "join(0, 3, 1200)");
        edge.taken("cells(3, 1199)", 0).taken("cells(3, 1200)", Due.FIELD).taken("shape(3, 1200, 0)", 36);
        edge.done("found(1, 1300, 0x7)").taken("cells(3, 1300)", Due.FIELD - 7).done("join(1, 3, 1400)");
        edge.taken("cells(3, 1399)", Due.FIELD - 7).taken("cells(3, 1400)", Due.FIELD).taken("who(0, 1400)", 1);
        edge.done("found(2, 1500, 0xfffffffff)").taken("cells(3, 1500)", 0).taken("there(3, 1500)", 1);
    }
}
