/** Promises 19 to 23 and 30: a test for each sentence that names an edge. */
public final class MapsEdgesTest {
    private static final Due DUE = new Due();

    public static void main(String[] args) {
        mapWas();
        mapBeyond();
        claimNobodyAndNothing();
        claimAnswers();
        claimBeyond();
        claimKind();
        readClaims();
        readAgrees();
        readFirstWrong();
        readBeyond();
        bestFirst();
        bestBeyond();
        quarrelFirst();
        quarrelBeyond();
        quarrelNone();
        layNumbers();
        layHasNone();
        layAnswers();
        layBeyond();
        layMissing();
        DUE.end();
    }

    private static Edge edge(String sentence, String... opening) {
        return new Edge(DUE, sentence, opening);
    }

    // ---- Promise 19: map

    private static void mapWas() {
        Edge edge = edge("A MAP is of a YEAR: what it was of.", Edge.RICH);
        edge.taken("map(0, 1000)", 1200).taken("map(0, 1999)", 1000).taken("map(0, 1999)", 1999);
        edge.taken("map(3, 1999)", 1000).taken("read(3, 0)", 1999).taken("read(2, 0)", 1000).taken("read(1, 0)", 1100);
        edge.taken("read(0, 1)", 3);
    }

    private static void mapBeyond() {
        Edge edge = edge("map. BEYOND: no such MAP, or YEAR.", Edge.RICH);
        for (int map : Edge.NO_FOUR) {
            edge.refused("map(" + map + ", 1500)", Due.BEYOND).refused("map(" + map + ", 999)", Due.BEYOND);
        }
        for (int year : Edge.NO_YEARS) {
            edge.refused("map(0, " + year + ")", Due.BEYOND).refused("map(3, " + year + ")", Due.BEYOND);
        }
        edge.taken("map(0, 1000)", 1200).taken("map(3, 1999)", 1000);
    }

    // ---- Promise 20: claim

    private static void claimNobodyAndNothing() {
        Edge edge = edge("A MAP CLAIMS that a cell is held by a unit (10: nobody; -1: it claims nothing)", Edge.RICH);
        edge.taken("claim(2, 35, 10)", 0).taken("read(2, 1)", 1).taken("read(2, 2)", 1).taken("read(2, 3)", 36);
        edge.taken("claim(2, 35, 4)", 1).taken("read(2, 1)", 1).taken("read(2, 2)", 0).taken("read(2, 3)", 35);
        edge.taken("claim(2, 35, -1)", 1).taken("read(2, 1)", 0).taken("read(2, 2)", 0).taken("read(2, 3)", 36);
        edge.taken("claim(2, 0, -1)", 0).taken("read(2, 1)", 0);
    }

    private static void claimAnswers() {
        Edge edge = edge("1 if it claimed something of it till then, else 0", Edge.RICH);
        edge.taken("claim(3, 0, 10)", 0).taken("claim(3, 0, 10)", 1).taken("claim(3, 0, 0)", 1);
        edge.taken("claim(3, 0, -1)", 1).taken("claim(3, 0, -1)", 0).taken("claim(3, 0, 0)", 0);
        edge.taken("claim(3, 1, 0)", 0).taken("claim(2, 0, 0)", 0).taken("claim(3, 35, -1)", 0);
        edge.taken("claim(0, 35, 4)", 1).taken("claim(0, 34, 4)", 0);
    }

    private static void claimBeyond() {
        Edge edge = edge("claim. BEYOND: no such MAP, cell, unit.", Edge.RICH);
        for (int map : Edge.NO_FOUR) {
            edge.refused("claim(" + map + ", 1, 1)", Due.BEYOND).refused("claim(" + map + ", 1, -1)", Due.BEYOND);
            edge.refused("claim(" + map + ", 1, 3)", Due.BEYOND);
        }
        for (int cell : Edge.NO_CELLS) {
            edge.refused("claim(0, " + cell + ", 1)", Due.BEYOND).refused("claim(0, " + cell + ", -1)", Due.BEYOND);
            edge.refused("claim(0, " + cell + ", 3)", Due.BEYOND).refused("claim(0, " + cell + ", 10)", Due.BEYOND);
        }
        for (int unit : new int[] {-2, 6, 9, 11, Edge.LEAST, Edge.MOST}) {
            edge.refused("claim(0, 1, " + unit + ")", Due.BEYOND).refused("claim(0, 2, " + unit + ")", Due.BEYOND);
        }
        edge.taken("claim(0, 0, 0)", 1).taken("claim(3, 35, 4)", 0).taken("claim(0, 0, -1)", 1);
        edge.taken("claim(3, 35, 10)", 1);
        edge.done("unit(0)", "unit(0)", "unit(0)", "unit(0)").taken("claim(2, 2, 9)", 0);
        edge.refused("claim(2, 2, 11)", Due.BEYOND).taken("claim(2, 2, 10)", 1);
    }

    private static void claimKind() {
        Edge edge = edge("claim. KIND: it is a HUNDRED.", Edge.RICH);
        edge.refused("claim(0, 0, 3)", Due.KIND).refused("claim(0, 0, 5)", Due.KIND);
        edge.refused("claim(3, 35, 3)", Due.KIND);
        edge.taken("claim(0, 0, 2)", 1).taken("claim(0, 0, 4)", 1);
        edge.refused("claim(4, 0, 3)", Due.BEYOND).refused("claim(0, 36, 3)", Due.BEYOND);
    }

    // ---- Promise 21: read

    private static void readClaims() {
        Edge edge = edge("1 how many CLAIMS", Edge.RICH).taken("read(0, 1)", 3).taken("read(2, 1)", 0);
        for (int cell = 0; cell < 36; cell++) {
            edge.taken("claim(2, " + cell + ", 10)", 0).taken("read(2, 1)", cell + 1);
        }
        edge.taken("claim(2, 35, 1)", 1).taken("read(2, 1)", 36).taken("claim(2, 35, -1)", 1).taken("read(2, 1)", 35);
    }

    private static void readAgrees() {
        Edge edge = edge("2 with how many it AGREES AT its YEAR", Edge.RICH).taken("read(0, 2)", 2);
        for (int cell = 0; cell < 36; cell++) {
            edge.done("claim(2, " + cell + ", 10)");
        }
        edge.taken("read(2, 2)", 36).done("map(2, 1099)").taken("read(2, 2)", 36);
        edge.done("map(2, 1100)").taken("read(2, 2)", 24).done("map(2, 1999)").taken("read(2, 2)", 24);
        edge.taken("found(4, 1999, 0xfffffffff)", 7).taken("read(2, 2)", 0).taken("read(3, 2)", 0);
    }

    private static void readFirstWrong() {
        Edge edge = edge("3 the first cell at which it does not (36: there is none)", Edge.RICH);
        edge.taken("read(2, 3)", 36).taken("claim(2, 35, 0)", 0).taken("read(2, 3)", 35);
        edge.taken("claim(2, 0, 10)", 0).taken("read(2, 3)", 35).taken("claim(2, 0, 0)", 1).taken("read(2, 3)", 0);
        edge.taken("claim(2, 35, 10)", 1).taken("read(2, 3)", 0).taken("claim(2, 0, -1)", 1).taken("read(2, 3)", 36);
        edge.taken("read(0, 3)", 1).done("map(0, 1300)").taken("read(0, 3)", 36);
    }

    private static void readBeyond() {
        Edge edge = edge("read. BEYOND.", Edge.RICH).taken("read(0, 0)", 1200).taken("read(0, 3)", 1);
        edge.taken("read(3, 0)", 1000).taken("read(3, 3)", 36);
        for (int no : Edge.NO_FOUR) {
            edge.refused("read(" + no + ", 0)", Due.BEYOND).refused("read(" + no + ", 3)", Due.BEYOND);
            edge.refused("read(0, " + no + ")", Due.BEYOND).refused("read(3, " + no + ")", Due.BEYOND);
        }
    }

    // ---- Promise 22: best

    private static void bestFirst() {
        Edge edge = edge("ITS BEST YEAR from a YEAR to another one.", Edge.RICH);
        edge.taken("best(3, 1000, 1999)", 1000).taken("best(3, 1999, 1999)", 1999);
        edge.taken("best(0, 1000, 1999)", 1150).taken("best(0, 1000, 1149)", 1100).taken("best(0, 1000, 1099)", 1000);
        edge.taken("best(0, 1150, 1999)", 1150).taken("best(0, 1151, 1999)", 1151).taken("best(0, 1200, 1299)", 1200);
        edge.taken("best(0, 1200, 1300)", 1300).taken("best(0, 1200, 1200)", 1200);
        edge.taken("claim(3, 35, 4)", 0).taken("best(3, 1000, 1999)", 1000).taken("found(4, 1999, 0xfffffffff)", 7);
        edge.taken("best(3, 1000, 1999)", 1999).taken("best(3, 1000, 1998)", 1000).taken("best(3, 1999, 1999)", 1999);
    }

    private static void bestBeyond() {
        Edge edge = edge("best. BEYOND: no such MAP, or YEARS, or the first is above the second.", Edge.RICH);
        for (int map : Edge.NO_FOUR) {
            edge.refused("best(" + map + ", 1000, 1999)", Due.BEYOND);
        }
        for (int year : Edge.NO_YEARS) {
            edge.refused("best(0, " + year + ", 1999)", Due.BEYOND).refused("best(0, 1000, " + year + ")", Due.BEYOND);
            edge.refused("best(0, " + year + ", " + year + ")", Due.BEYOND);
        }
        edge.refused("best(0, 1001, 1000)", Due.BEYOND).refused("best(0, 1999, 1998)", Due.BEYOND);
        edge.refused("best(0, 1999, 1000)", Due.BEYOND);
        edge.taken("best(0, 1000, 1000)", 1000).taken("best(0, 1999, 1999)", 1999).taken("best(3, 1998, 1999)", 1998);
    }

    // ---- Promise 23: quarrel

    private static void quarrelFirst() {
        Edge edge = edge("The first cell of which two MAPS claim unlike things.", Edge.RICH);
        edge.taken("quarrel(0, 1)", 1).taken("quarrel(1, 0)", 1);
        edge.taken("claim(3, 35, 0)", 0).taken("quarrel(0, 3)", 35).taken("quarrel(3, 0)", 35);
        edge.taken("claim(3, 0, 10)", 0).taken("quarrel(0, 3)", 0).taken("quarrel(3, 0)", 0);
        edge.taken("claim(3, 0, 2)", 1).taken("quarrel(0, 3)", 35);
    }

    private static void quarrelBeyond() {
        Edge edge = edge("quarrel. BEYOND (either).", Edge.RICH);
        for (int no : Edge.NO_FOUR) {
            edge.refused("quarrel(" + no + ", 0)", Due.BEYOND).refused("quarrel(0, " + no + ")", Due.BEYOND);
            edge.refused("quarrel(" + no + ", " + no + ")", Due.BEYOND).refused("quarrel(3, " + no + ")", Due.BEYOND);
        }
        edge.taken("claim(3, 35, 0)", 0).taken("quarrel(3, 0)", 35).taken("quarrel(0, 3)", 35);
    }

    private static void quarrelNone() {
        Edge edge = edge("quarrel. NONE.", Edge.RICH);
        edge.refused("quarrel(2, 3)", Due.NONE).refused("quarrel(0, 0)", Due.NONE).refused("quarrel(3, 3)", Due.NONE);
        edge.refused("quarrel(0, 2)", Due.NONE).refused("quarrel(2, 0)", Due.NONE);
        edge.taken("claim(3, 35, 10)", 0).refused("quarrel(0, 3)", Due.NONE).refused("quarrel(3, 0)", Due.NONE);
    }

    // ---- Promise 30: lay

    private static void layNumbers() {
        String sentence = "number k for cell k: a unit that is no HUNDRED, 10, or (all others ..) nothing";
        for (int bits = 8; bits <= 32; bits *= 2) {
            for (int number : new int[] {-2, -1, 3, 5, 6, 9, 11, 36, 127, 128, 255, Edge.LEAST + 11, Edge.MOST}) {
                Edge edge = edge(sentence, Edge.RICH).done("sheet(3, " + bits + ", 1)", "put(3, 0, " + number + ")");
                edge.taken("lay(0, 3)", 0).taken("claim(0, 0, -1)", 0);
            }
            for (int unit : new int[] {0, 1, 2, 4, 10}) {
                Edge edge = edge(sentence, Edge.RICH).done("sheet(3, " + bits + ", 36)");
                for (int number = 0; number < 36; number++) {
                    edge.done("put(3, " + number + ", 3)");
                }
                edge.done("put(3, 0, " + unit + ")", "put(3, 35, " + unit + ")").taken("lay(2, 3)", 2);
                edge.done("claim(3, 0, " + unit + ")", "claim(3, 35, " + unit + ")").refused("quarrel(2, 3)", Due.NONE);
                edge.taken("claim(2, 1, -1)", 0).taken("claim(2, 34, -1)", 0);
                edge.taken("claim(2, 0, -1)", 1).taken("claim(2, 35, -1)", 1);
            }
        }
    }

    private static void layHasNone() {
        Edge edge = edge("(.. and cells for which it has none) nothing", Edge.RICH);
        edge.taken("lay(0, 0)", 3).taken("claim(0, 35, -1)", 0).taken("claim(0, 4, -1)", 0).taken("claim(0, 2, -1)", 1);
        edge.taken("lay(1, 2)", 0).taken("claim(1, 1, -1)", 0).taken("read(1, 1)", 0).taken("read(1, 0)", 1100);
        edge.taken("sheet(0, 8, 35)", 35).taken("lay(0, 0)", 35).taken("claim(0, 35, -1)", 0);
        edge.taken("sheet(0, 8, 36)", 36).taken("lay(0, 0)", 36).taken("claim(0, 35, -1)", 1);
        edge.done("sheet(0, 8, 36)", "put(0, 4, 10)", "sheet(0, 8, 4)").taken("lay(3, 0)", 4).taken("read(3, 1)", 4);
    }

    private static void layAnswers() {
        Edge edge = edge("how many CLAIMS there are", Edge.RICH);
        edge.taken("lay(3, 2)", 0).taken("lay(3, 0)", 3).taken("lay(3, 1)", 36).taken("read(3, 1)", 36);
        edge.taken("lay(3, 2)", 0).taken("read(3, 1)", 0).taken("read(0, 1)", 3).taken("read(1, 1)", 1);
        edge("how many CLAIMS there are, without units").done("sheet(0, 8, 36)", "put(0, 7, 10)").taken("lay(0, 0)", 1)
            .done("unit(0)").taken("lay(0, 0)", 36);
    }

    private static void layBeyond() {
        Edge edge = edge("lay. BEYOND: no such MAP, or sheet.", Edge.RICH);
        for (int no : Edge.NO_FOUR) {
            edge.refused("lay(" + no + ", 0)", Due.BEYOND).refused("lay(0, " + no + ")", Due.BEYOND);
            edge.refused("lay(" + no + ", 3)", Due.BEYOND).refused("lay(3, " + no + ")", Due.BEYOND);
        }
        edge.taken("lay(0, 0)", 3).taken("lay(3, 0)", 3).taken("sheet(3, 8, 1)", 1).taken("lay(0, 3)", 1);
    }

    private static void layMissing() {
        Edge edge = edge("lay. MISSING.", Edge.RICH);
        edge.refused("lay(0, 3)", Due.MISSING).refused("lay(3, 3)", Due.MISSING);
        edge.taken("sheet(3, 32, 0)", 0).taken("lay(0, 3)", 0);
        edge.taken("sheet(0, 0, 0)", 0).refused("lay(1, 0)", Due.MISSING).taken("read(1, 1)", 1);
    }
}
