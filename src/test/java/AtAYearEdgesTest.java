/** Promises 11 to 18: a test for each sentence that names an edge. */
public final class AtAYearEdgesTest {
    private static final Due DUE = new Due();

    public static void main(String[] args) {
        whoNobody();
        whoBeyond();
        thereOneOrNought();
        thereBeyond();
        cellsEmptyAndFull();
        cellsBeyond();
        shapeEmptyAndFull();
        shapeBeyond();
        underOf();
        underBeyond();
        underKind();
        underNone();
        ledOf();
        ledBeyond();
        ledSize();
        ledNone();
        bordersNoneAndAll();
        bordersBeyond();
        changesFirst();
        changesIn1000();
        changesBeyond();
        changesNone();
        DUE.end();
    }

    private static Edge edge(String sentence, String... opening) {
        return new Edge(DUE, sentence, opening);
    }

    // ---- Promise 11: who

    private static void whoNobody() {
        Edge edge = edge("Who holds a cell AT a YEAR (10: nobody).");
        for (int unit = 0; unit < 10; unit++) {
            edge.done("unit(0)");
        }
        edge.taken("who(0, 1000)", 10).taken("found(9, 1500, 0x800000001)", 0);
        edge.taken("who(0, 1499)", 10).taken("who(0, 1500)", 9).taken("who(35, 1500)", 9).taken("who(34, 1500)", 10);
        edge.taken("back(0, 1600)", 1).taken("who(35, 1599)", 9).taken("who(35, 1600)", 10);
    }

    private static void whoBeyond() {
        Edge edge = edge("who. BEYOND.", Edge.RICH);
        edge.taken("who(0, 1000)", 10).taken("who(0, 1999)", 2).taken("who(35, 1000)", 10).taken("who(35, 1999)", 10);
        for (int cell : Edge.NO_CELLS) {
            edge.refused("who(" + cell + ", 1500)", Due.BEYOND);
        }
        for (int year : Edge.NO_YEARS) {
            edge.refused("who(0, " + year + ")", Due.BEYOND).refused("who(36, " + year + ")", Due.BEYOND);
        }
    }

    // ---- Promise 12: there

    private static void thereOneOrNought() {
        Edge edge = edge("Whether a unit is THERE AT a YEAR: 1, 0.", Edge.KINDS);
        edge.taken("found(0, 1000, 0x0)", 0).taken("found(1, 1999, 0x0)", 1);
        edge.taken("there(0, 1000)", 1).taken("there(0, 1999)", 1);
        edge.taken("there(1, 1000)", 0).taken("there(1, 1998)", 0).taken("there(1, 1999)", 1);
        edge.taken("there(2, 1999)", 0).taken("there(3, 1000)", 1).taken("there(3, 1999)", 1);
    }

    private static void thereBeyond() {
        Edge edge = edge("there. BEYOND.", Edge.RICH);
        edge.taken("there(0, 1000)", 0).taken("there(0, 1999)", 1).taken("there(5, 1000)", 1);
        edge.taken("there(5, 1999)", 1);
        for (int unit : Edge.NO_UNITS) {
            edge.refused("there(" + unit + ", 1500)", Due.BEYOND);
        }
        for (int year : Edge.NO_YEARS) {
            edge.refused("there(0, " + year + ")", Due.BEYOND).refused("there(3, " + year + ")", Due.BEYOND);
        }
    }

    // ---- Promise 13: cells

    private static void cellsEmptyAndFull() {
        Edge edge = edge("The set of cells that a unit holds AT a YEAR.", Edge.KINDS);
        edge.taken("cells(0, 1500)", 0).taken("found(0, 1500, 0xfffffffff)", 0).taken("join(0, 3, 1600)", 1);
        edge.taken("cells(0, 1499)", 0).taken("cells(0, 1500)", Due.FIELD).taken("cells(0, 1999)", Due.FIELD);
        edge.taken("cells(3, 1599)", 0).taken("cells(3, 1600)", Due.FIELD);
        edge.taken("found(1, 1700, 0x800000000)", 2).taken("cells(1, 1700)", Due.set(35));
        edge.taken("cells(0, 1700)", Due.FIELD - Due.set(35)).taken("cells(3, 1700)", Due.FIELD - Due.set(35));
    }

    private static void cellsBeyond() {
        Edge edge = edge("cells. BEYOND.", Edge.RICH);
        edge.taken("cells(0, 1000)", 0).taken("cells(0, 1999)", Due.set(1, 2, 3, 4, 5));
        edge.taken("cells(5, 1000)", 0).taken("cells(5, 1999)", 0);
        for (int unit : Edge.NO_UNITS) {
            edge.refused("cells(" + unit + ", 1500)", Due.BEYOND);
        }
        for (int year : Edge.NO_YEARS) {
            edge.refused("cells(0, " + year + ")", Due.BEYOND).refused("cells(3, " + year + ")", Due.BEYOND);
        }
    }

    // ---- Promise 14: shape

    private static void shapeEmptyAndFull() {
        String sentence = "AREA (0), PIECES (1), SIDES (2) of a unit AT a YEAR.";
        shapes(sentence, 0, 0, 0, 0);
        shapes(sentence, Due.set(0), 1, 1, 4);
        shapes(sentence, Due.set(35), 1, 1, 4);
        shapes(sentence, Due.FIELD, 36, 1, 24);
        shapes(sentence, Due.FIELD - Due.set(0), 35, 1, 24);
        shapes(sentence, Due.FIELD - Due.set(7), 35, 1, 28);
    }

    private static void shapes(String sentence, long set, int area, int pieces, int sides) {
        Edge edge = edge(sentence, Edge.KINDS).taken("found(1, 1500, " + set + ")", 0).taken("join(1, 3, 1500)", 1);
        long[] due = {area, pieces, sides};
        for (int what = 0; what < 3; what++) {
            edge.taken("shape(1, 1499, " + what + ")", 0).taken("shape(1, 1500, " + what + ")", due[what]);
            edge.taken("shape(3, 1499, " + what + ")", 0).taken("shape(3, 1500, " + what + ")", due[what]);
        }
    }

    private static void shapeBeyond() {
        Edge edge = edge("shape. BEYOND: no such unit, YEAR, or what.", Edge.RICH);
        edge.taken("shape(0, 1000, 0)", 0).taken("shape(0, 1999, 0)", 5).taken("shape(0, 1999, 2)", 12);
        edge.taken("shape(5, 1999, 2)", 0);
        for (int unit : Edge.NO_UNITS) {
            edge.refused("shape(" + unit + ", 1500, 0)", Due.BEYOND);
            edge.refused("shape(" + unit + ", 1500, 2)", Due.BEYOND);
        }
        for (int year : Edge.NO_YEARS) {
            edge.refused("shape(0, " + year + ", 1)", Due.BEYOND).refused("shape(3, " + year + ", 1)", Due.BEYOND);
        }
        for (int what : new int[] {-1, 3, Edge.LEAST, Edge.MOST}) {
            edge.refused("shape(0, 1500, " + what + ")", Due.BEYOND);
            edge.refused("shape(3, 1500, " + what + ")", Due.BEYOND);
        }
    }

    // ---- Promise 15: under

    private static void underOf() {
        Edge edge = edge("The HUNDRED under which a unit is AT a YEAR.", Edge.RICH);
        edge.refused("under(1, 1249)", Due.NONE).taken("under(1, 1250)", 3).taken("under(1, 1999)", 3);
        edge.taken("join(1, 5, 1999)", 7).taken("under(1, 1998)", 3).taken("under(1, 1999)", 5);
        edge.taken("swallow(1, 0, 1500)", 8).taken("under(1, 1499)", 3).refused("under(1, 1500)", Due.NONE);
        edge.taken("act(7, 2)", 1).refused("under(1, 1999)", Due.NONE);
    }

    private static void underBeyond() {
        Edge edge = edge("under. BEYOND.", Edge.RICH).taken("join(2, 5, 1150)", 7).taken("under(2, 1999)", 5);
        for (int unit : Edge.NO_UNITS) {
            edge.refused("under(" + unit + ", 1500)", Due.BEYOND);
        }
        for (int year : Edge.NO_YEARS) {
            edge.refused("under(1, " + year + ")", Due.BEYOND).refused("under(3, " + year + ")", Due.BEYOND);
        }
    }

    private static void underKind() {
        Edge edge = edge("under. KIND: it is a HUNDRED.", Edge.RICH);
        edge.refused("under(3, 1000)", Due.KIND).refused("under(3, 1999)", Due.KIND);
        edge.refused("under(5, 1999)", Due.KIND);
    }

    private static void underNone() {
        Edge edge = edge("under. NONE: under none.", Edge.RICH);
        edge.refused("under(0, 1000)", Due.NONE).refused("under(0, 1999)", Due.NONE);
        edge.refused("under(1, 1000)", Due.NONE).refused("under(4, 1999)", Due.NONE);
    }

    // ---- Promise 16: led

    private static void ledOf() {
        Edge edge = edge("The act to which the BORDER between two cells is LED AT a YEAR.", Edge.RICH);
        edge.taken("led(0, 1, 1150)", 2).taken("led(1, 0, 1150)", 2).taken("led(0, 1, 1999)", 2);
        edge.taken("led(2, 3, 1200)", 3).taken("led(2, 3, 1299)", 3).refused("led(2, 3, 1300)", Due.NONE);
        edge.taken("led(1, 7, 1199)", 0).refused("led(1, 7, 1200)", Due.NONE).taken("led(1, 7, 1300)", 6);
        edge.taken("found(4, 1000, 0x800000000)", 7).taken("led(35, 34, 1000)", 7).taken("led(29, 35, 1999)", 7);
    }

    private static void ledBeyond() {
        Edge edge = edge("led. BEYOND: no such cell (either), or YEAR.", Edge.RICH);
        for (int cell : Edge.NO_CELLS) {
            edge.refused("led(" + cell + ", 0, 1500)", Due.BEYOND).refused("led(0, " + cell + ", 1500)", Due.BEYOND);
            edge.refused("led(" + cell + ", 35, 1500)", Due.BEYOND).refused("led(35, " + cell + ", 1500)", Due.BEYOND);
            edge.refused("led(30, " + cell + ", 1500)", Due.BEYOND);
            edge.refused("led(" + cell + ", " + cell + ", 1500)", Due.BEYOND);
        }
        for (int year : Edge.NO_YEARS) {
            edge.refused("led(0, 1, " + year + ")", Due.BEYOND).refused("led(0, 0, " + year + ")", Due.BEYOND);
            edge.refused("led(34, 35, " + year + ")", Due.BEYOND);
        }
        edge.taken("found(4, 1000, 0xc00000003)", 7);
        edge.taken("led(0, 6, 1000)", 7).taken("led(6, 0, 1000)", 7).taken("led(35, 29, 1999)", 7);
    }

    private static void ledSize() {
        Edge edge = edge("led. SIZE: they are not beside one another.", Edge.RICH);
        int[][] apart = {{0, 0}, {35, 35}, {5, 6}, {6, 5}, {11, 12}, {29, 30}, {0, 2}, {0, 7}, {1, 6}, {0, 5}, {0, 30},
            {5, 35}, {0, 12}, {0, 35}, {14, 14}, {14, 7}, {14, 9}, {14, 19}, {14, 21}, {14, 12}, {14, 2}};
        for (int[] pair : apart) {
            edge.refused("led(" + pair[0] + ", " + pair[1] + ", 1999)", Due.SIZE);
            edge.refused("led(" + pair[1] + ", " + pair[0] + ", 1000)", Due.SIZE);
        }
    }

    private static void ledNone() {
        Edge edge = edge("led. NONE: there is no BORDER.", Edge.RICH);
        edge.refused("led(0, 1, 1000)", Due.NONE).refused("led(0, 1, 1149)", Due.NONE);
        edge.refused("led(3, 4, 1999)", Due.NONE).refused("led(34, 35, 1999)", Due.NONE);
        edge.refused("led(0, 6, 1999)", Due.NONE).taken("led(0, 6, 1149)", 0);
    }

    // ---- Promise 17: borders

    private static void bordersNoneAndAll() {
        Edge edge = edge("How many BORDERS there are AT a YEAR.", Edge.KINDS).taken("borders(1000)", 0);
        edge.taken("found(0, 1500, 0xfffffffff)", 0).taken("borders(1499)", 0).taken("borders(1500)", 0);
        edge.taken("found(1, 1600, " + Due.BOARD + ")", 1);
        edge.taken("borders(1599)", 0).taken("borders(1600)", 60).taken("borders(1999)", 60);
        edge.taken("found(2, 1999, 0x1)", 2).taken("borders(1999)", 60);
        edge.taken("move(1, 0, 1999, 0xffffffffe)", 3).taken("borders(1999)", 2).taken("borders(1998)", 60);
    }

    private static void bordersBeyond() {
        Edge edge = edge("borders. BEYOND.", Edge.RICH).taken("borders(1000)", 0).taken("borders(1999)", 13);
        for (int year : Edge.NO_YEARS) {
            edge.refused("borders(" + year + ")", Due.BEYOND);
        }
    }

    // ---- Promise 18: changes

    private static void changesFirst() {
        Edge edge = edge("The first YEAR from one on at which a unit holds something else than AT the YEAR ahead",
            Edge.RICH);
        edge.taken("changes(0, 1000)", 1100).taken("changes(0, 1100)", 1100).taken("changes(0, 1101)", 1150);
        edge.taken("changes(0, 1150)", 1150).taken("changes(0, 1151)", 1200).taken("changes(0, 1201)", 1300);
        edge.taken("changes(0, 1300)", 1300).refused("changes(0, 1301)", Due.NONE);
        edge.taken("changes(3, 1000)", 1250).taken("changes(3, 1251)", 1300);
        edge.taken("found(4, 1999, 0x800000000)", 7).taken("changes(4, 1000)", 1999).taken("changes(4, 1999)", 1999);
        Edge upon = edge("than AT the YEAR ahead: year upon year", Edge.KINDS).taken("found(0, 1500, 0x1)", 0);
        upon.taken("changes(0, 1000)", 1500).taken("found(1, 1501, 0x1)", 1).taken("changes(0, 1501)", 1501);
        upon.taken("move(1, 0, 1502, 0x1)", 2).taken("changes(0, 1501)", 1501).taken("changes(0, 1502)", 1502);
        upon.refused("changes(0, 1503)", Due.NONE);
    }

    private static void changesIn1000() {
        Edge edge = edge("(1000: than nothing)", Edge.KINDS).taken("found(0, 1000, 0x0)", 0);
        edge.refused("changes(0, 1000)", Due.NONE).taken("found(1, 1000, 0x1)", 1).taken("changes(1, 1000)", 1000);
        edge.taken("join(1, 3, 1000)", 2).taken("changes(3, 1000)", 1000).refused("changes(1, 1001)", Due.NONE);
        edge.refused("changes(3, 1001)", Due.NONE).taken("back(1, 1000)", 3).refused("changes(1, 1000)", Due.NONE);
    }

    private static void changesBeyond() {
        Edge edge = edge("changes. BEYOND: no such unit, or YEAR.", Edge.RICH);
        for (int unit : Edge.NO_UNITS) {
            edge.refused("changes(" + unit + ", 1500)", Due.BEYOND).refused("changes(" + unit + ", 999)", Due.BEYOND);
        }
        for (int year : Edge.NO_YEARS) {
            edge.refused("changes(0, " + year + ")", Due.BEYOND).refused("changes(5, " + year + ")", Due.BEYOND);
        }
        edge.taken("changes(0, 1000)", 1100).taken("join(2, 5, 1999)", 7).taken("changes(5, 1999)", 1999);
    }

    private static void changesNone() {
        Edge edge = edge("changes. NONE: there is none.", Edge.RICH);
        edge.refused("changes(4, 1000)", Due.NONE).refused("changes(4, 1999)", Due.NONE);
        edge.refused("changes(5, 1000)", Due.NONE).refused("changes(1, 1999)", Due.NONE);
        edge("changes. NONE: no acts", Edge.KINDS).refused("changes(0, 1000)", Due.NONE)
            .refused("changes(3, 1000)", Due.NONE).refused("changes(0, 1999)", Due.NONE);
    }
}
