/** Promises 24 to 26: a test for each sentence that names an edge. */
public final class CountsEdgesTest {
    private static final Due DUE = new Due();

    public static void main(String[] args) {
        countHowMany();
        countBeyond();
        countKind();
        countFull();
        carriedAboveAndBelow();
        carriedNothing();
        carriedBeyond();
        peopleSum();
        peopleLatest();
        peopleBeyond();
        DUE.end();
    }

    private static Edge edge(String sentence, String... opening) {
        return new Edge(DUE, sentence, opening);
    }

    // ---- Promise 24: count

    private static void countHowMany() {
        Edge edge = edge("A COUNT: how many there are.", Edge.KINDS);
        for (int i = 1; i <= 20; i++) {
            edge.taken("count(" + i % 3 + ", " + (1000 + i % 2) + ", " + i + ")", i).taken("told(3)", i);
        }
    }

    private static void countBeyond() {
        Edge edge = edge("count. BEYOND: no such unit, YEAR, or number.", Edge.RICH);
        for (int unit : Edge.NO_UNITS) {
            edge.refused("count(" + unit + ", 1100, 5)", Due.BEYOND);
        }
        for (int year : Edge.NO_YEARS) {
            edge.refused("count(0, " + year + ", 5)", Due.BEYOND).refused("count(3, " + year + ", 5)", Due.BEYOND);
        }
        for (int people : new int[] {-1, 1000001, Edge.LEAST, Edge.MOST}) {
            edge.refused("count(0, 1100, " + people + ")", Due.BEYOND);
            edge.refused("count(3, 1100, " + people + ")", Due.BEYOND);
        }
        edge.taken("count(0, 1000, 0)", 4).taken("count(4, 1999, 1000000)", 5);
        edge.taken("people(1000)", 0).taken("people(1999)", 1000000);
        edge.done("unit(0)", "unit(0)", "unit(0)", "unit(0)").taken("count(9, 1999, 1)", 6);
        edge.refused("count(10, 1999, 1)", Due.BEYOND);
    }

    private static void countKind() {
        Edge edge = edge("count. KIND: it is a HUNDRED.", Edge.RICH);
        edge.refused("count(3, 1100, 5)", Due.KIND).refused("count(5, 1999, 0)", Due.KIND);
        edge.taken("count(0, 1100, 5)", 4).taken("count(1, 1100, 5)", 5).taken("count(2, 1100, 5)", 6);
    }

    private static void countFull() {
        Edge edge = edge("count. FULL: there are 20.", Edge.RICH);
        for (int i = 4; i <= 20; i++) {
            edge.taken("count(0, 1100, " + i + ")", i);
        }
        edge.refused("count(0, 1100, 99)", Due.FULL).refused("count(4, 1999, 0)", Due.FULL);
        edge.refused("count(3, 1100, 99)", Due.KIND).refused("count(3, 999, 99)", Due.BEYOND);
        edge.refused("count(0, 1100, -1)", Due.BEYOND).refused("count(6, 1100, 1)", Due.BEYOND);
        edge.refused("count(0, 2000, 1)", Due.BEYOND);
        edge.taken("told(3)", 20).taken("people(1100)", 20).taken("people(1200)", 1000000);
        edge.taken("untell()", 6).refused("count(0, 1100, 99)", Due.FULL);
    }

    // ---- Promise 25: carried

    private static void carriedAboveAndBelow() {
        Edge edge = edge("What is CARRIED from a YEAR to a unit AT another one: above (below) the line.", Edge.RICH);
        edge.fraction(1100, 0, 1100, 60, 1);
        edge.fraction(1100, 0, 1150, 50, 1);
        edge.fraction(1100, 2, 1999, 10, 1);
        edge.fraction(1200, 0, 1999, 2000000, 7);
        edge.fraction(1200, 1, 1999, 5000000, 7);
        edge.fraction(1200, 3, 1999, 5000000, 7);
        edge.fraction(1200, 1, 1200, 1000000, 1);
        edge.fraction(1200, 3, 1249, 0, 1);
    }

    private static void carriedNothing() {
        String sentence = "CARRIED: all together (a FRACTION, in lowest terms), of no people";
        Edge edge = edge(sentence, Edge.KINDS);
        edge.fraction(1000, 0, 1999, 0, 1);
        edge.fraction(1000, 3, 1999, 0, 1);
        edge.taken("count(0, 1000, 5)", 1);
        edge.fraction(1000, 0, 1000, 0, 1);
        edge.taken("found(0, 1000, 0x0)", 0);
        edge.fraction(1000, 0, 1000, 0, 1);
        edge.taken("found(1, 1000, 0xfffffffff)", 1).taken("count(1, 1000, 0)", 2);
        edge.fraction(1000, 1, 1000, 0, 1);
        edge.taken("count(1, 1000, 1)", 3);
        edge.fraction(1000, 1, 1999, 1, 1);
        edge.fraction(1000, 2, 1999, 0, 1);
    }

    private static void carriedBeyond() {
        Edge edge = edge("carried. BEYOND: no such unit, or YEARS.", Edge.RICH);
        for (String below : new String[] {"false", "true"}) {
            for (int unit : Edge.NO_UNITS) {
                edge.refused("carried(1100, " + unit + ", 1200, " + below + ")", Due.BEYOND);
            }
            for (int year : Edge.NO_YEARS) {
                edge.refused("carried(" + year + ", 0, 1200, " + below + ")", Due.BEYOND);
                edge.refused("carried(1100, 0, " + year + ", " + below + ")", Due.BEYOND);
                edge.refused("carried(" + year + ", 6, " + year + ", " + below + ")", Due.BEYOND);
            }
        }
        edge.fraction(1000, 0, 1999, 0, 1);
        edge.fraction(1999, 0, 1000, 0, 1);
        edge.fraction(1100, 5, 1999, 0, 1);
        edge.taken("found(4, 1000, 0x1)", 7).taken("count(4, 1000, 3)", 4).taken("count(2, 1999, 1)", 5);
        edge.fraction(1000, 2, 1999, 3, 1);
        edge.fraction(1999, 4, 1000, 1, 2);
    }

    // ---- Promise 26: people

    private static void peopleSum() {
        Edge edge = edge("The sum of all COUNTS of a YEAR");
        for (int unit = 0; unit < 10; unit++) {
            edge.taken("unit(0)", unit).taken("people(1500)", 1000000L * unit);
            edge.taken("count(" + unit + ", 1500, 1000000)", 2 * unit + 1);
            edge.taken("count(" + unit + ", 1501, 1)", 2 * unit + 2);
        }
        edge.taken("people(1500)", 10000000).taken("people(1501)", 10).taken("people(1499)", 0);
        edge.taken("people(1502)", 0);
    }

    private static void peopleLatest() {
        Edge edge = edge("(of each unit the latest told)", Edge.RICH);
        edge.taken("people(1200)", 1000000).taken("count(1, 1200, 0)", 4).taken("people(1200)", 0);
        edge.taken("count(1, 1200, 7)", 5).taken("count(2, 1200, 5)", 6).taken("people(1200)", 12);
        edge.taken("count(1, 1199, 9)", 7).taken("people(1200)", 12).taken("people(1199)", 9);
    }

    private static void peopleBeyond() {
        Edge edge = edge("people. BEYOND.", Edge.RICH).taken("count(0, 1000, 3)", 4).taken("count(0, 1999, 4)", 5);
        edge.taken("people(1000)", 3).taken("people(1999)", 4);
        for (int year : Edge.NO_YEARS) {
            edge.refused("people(" + year + ")", Due.BEYOND);
        }
    }
}
