import java.util.ArrayList;
import java.util.List;

/** Promises 27 to 29 and 31: a test for each sentence that names an edge. */
public final class SheetsEdgesTest {
    private static final Due DUE = new Due();

    public static void main(String[] args) {
        sheetHasNumbers();
        sheetAllNought();
        sheetIsMissing();
        sheetBeyond();
        sheetSize();
        sheetAbove36();
        putLowestBits();
        putBeyondSheet();
        putMissing();
        putBeyondNumber();
        copyNumbers();
        copyFull();
        copyWithinOne();
        copyNone();
        copyBeyondSheet();
        copyMissing();
        copyKind();
        copyHasNotSoMany();
        copyBelowNought();
        toldUnitsActsCounts();
        toldFindings();
        toldBeyond();
        DUE.end();
    }

    private static Edge edge(String sentence, String... opening) {
        return new Edge(DUE, sentence, opening);
    }

    /** Lays the sheet on a map and asks what is claimed of the first cells (-1: nothing); map 2 must have no claims. */
    private static void numbersAre(Edge edge, int s, int... due) {
        List<String> undo = new ArrayList<>();
        edge.done("lay(3, " + s + ")");
        for (int cell = 0; cell < due.length; cell++) {
            if (due[cell] == -1) {
                edge.taken("claim(3, " + cell + ", -1)", 0);
            } else {
                edge.done("claim(2, " + cell + ", " + due[cell] + ")");
                undo.add("claim(2, " + cell + ", -1)");
            }
        }
        edge.taken("quarrel(2, 3)", Due.NONE);
        for (int cell = 0; cell < due.length; cell++) {
            if (due[cell] != -1) {
                edge.taken("claim(3, " + cell + ", -1)", 1);
            }
        }
        edge.taken("read(3, 1)", 0).done(undo.toArray(new String[0]));
    }

    // ---- Promise 27: sheet

    private static void sheetHasNumbers() {
        for (int bits = 8; bits <= 32; bits *= 2) {
            for (int n : new int[] {0, 1, 35, 36}) {
                Edge edge = edge("A sheet has n numbers .. of 8, 16 or 32 bits: n", Edge.RICH);
                edge.taken("sheet(3, " + bits + ", " + n + ")", n).taken("lay(3, 3)", n);
                edge.refused("put(3, " + n + ", 1)", Due.BEYOND).refused("put(3, -1, 1)", Due.BEYOND);
                if (n > 0) {
                    edge.taken("put(3, " + (n - 1) + ", 1)", 0).taken("put(3, 0, 1)", 0);
                }
            }
        }
    }

    private static void sheetAllNought() {
        Edge edge = edge("[n numbers], all 0", Edge.RICH);
        numbersAre(edge, 0, 10, 4, 0, -1);
        edge.taken("sheet(0, 8, 4)", 4);
        numbersAre(edge, 0, 0, 0, 0, 0);
        edge.done("put(0, 3, 4)").taken("sheet(0, 8, 2)", 2);
        numbersAre(edge, 0, 0, 0);
        edge.taken("sheet(0, 32, 6)", 6);
        numbersAre(edge, 0, 0, 0, 0, 0, 0, 0);
        edge.done("put(0, 5, 4)", "sheet(0, 0, 0)").taken("sheet(0, 16, 6)", 6);
        numbersAre(edge, 0, 0, 0, 0, 0, 0, 0);
    }

    private static void sheetIsMissing() {
        for (int s = 0; s < 4; s++) {
            for (int n : new int[] {0, 1, 36}) {
                Edge edge = edge("bits 0: it is MISSING: n (0)", Edge.RICH);
                edge.taken("sheet(" + s + ", 0, " + n + ")", 0).refused("put(" + s + ", 0, 0)", Due.MISSING);
                edge.refused("lay(0, " + s + ")", Due.MISSING).taken("sheet(" + s + ", 8, 0)", 0);
                edge.refused("put(" + s + ", 0, 0)", Due.BEYOND);
            }
        }
    }

    private static void sheetBeyond() {
        Edge edge = edge("sheet. BEYOND: no such sheet, or bits.", Edge.RICH);
        for (int s : Edge.NO_FOUR) {
            for (int bits : new int[] {0, 8, 9}) {
                edge.refused("sheet(" + s + ", " + bits + ", 1)", Due.BEYOND);
                edge.refused("sheet(" + s + ", " + bits + ", -1)", Due.BEYOND);
            }
        }
        for (int bits : new int[] {-8, -1, 1, 4, 7, 9, 15, 17, 24, 31, 33, 64, Edge.LEAST, Edge.MOST}) {
            edge.refused("sheet(0, " + bits + ", 1)", Due.BEYOND).refused("sheet(0, " + bits + ", -1)", Due.BEYOND);
            edge.refused("sheet(3, " + bits + ", 0)", Due.BEYOND);
        }
        edge.taken("sheet(0, 8, 1)", 1).taken("sheet(3, 32, 1)", 1).taken("sheet(3, 16, 1)", 1);
    }

    private static void sheetSize() {
        Edge edge = edge("sheet. SIZE: n is below 0.", Edge.RICH);
        for (int bits : new int[] {0, 8, 16, 32}) {
            edge.refused("sheet(0, " + bits + ", -1)", Due.SIZE);
            edge.refused("sheet(0, " + bits + ", " + Edge.LEAST + ")", Due.SIZE);
            edge.refused("sheet(3, " + bits + ", -1)", Due.SIZE);
        }
        edge.refused("sheet(4, 8, -1)", Due.BEYOND).refused("sheet(0, 7, -1)", Due.BEYOND).taken("sheet(0, 8, 0)", 0);
    }

    private static void sheetAbove36() {
        Edge edge = edge("sheet. BEYOND: n is above 36.", Edge.RICH);
        for (int bits : new int[] {0, 8, 16, 32}) {
            edge.refused("sheet(0, " + bits + ", 37)", Due.BEYOND);
            edge.refused("sheet(0, " + bits + ", " + Edge.MOST + ")", Due.BEYOND);
            edge.refused("sheet(3, " + bits + ", 37)", Due.BEYOND);
        }
        edge.taken("sheet(0, 8, 36)", 36).taken("sheet(3, 32, 36)", 36);
    }

    // ---- Promise 28: put

    private static void putLowestBits() {
        String sentence = "Number i of a sheet becomes v (its lowest bits): 0.";
        int[] numbers = {4, 256 + 4, 65536 + 4, -256 + 4, -65536 + 4, Edge.LEAST + 4, 255, 256, 65535, 65536};
        int[][] due = {
            {4, 4, 4, 4, 4, 4, -1, 0, -1, 0},
            {4, -1, 4, -1, 4, 4, -1, -1, -1, 0},
            {4, -1, -1, -1, -1, -1, -1, -1, -1, -1},
        };
        for (int k = 0; k < 3; k++) {
            Edge edge = edge(sentence, Edge.RICH).done("sheet(3, " + (8 << k) + ", " + numbers.length + ")");
            for (int i = 0; i < numbers.length; i++) {
                edge.taken("put(3, " + i + ", " + numbers[i] + ")", 0);
            }
            numbersAre(edge, 3, due[k]);
            edge.taken("put(3, 0, 1)", 0).taken("put(3, 0, 2)", 0).taken("put(3, 9, 10)", 0);
            due[k][0] = 2;
            due[k][9] = 10;
            numbersAre(edge, 3, due[k]);
        }
    }

    private static void putBeyondSheet() {
        Edge edge = edge("put. BEYOND: no such sheet.", Edge.RICH);
        for (int s : Edge.NO_FOUR) {
            edge.refused("put(" + s + ", 0, 1)", Due.BEYOND).refused("put(" + s + ", -1, 1)", Due.BEYOND);
        }
        edge.taken("put(0, 0, 1)", 0).taken("sheet(3, 8, 1)", 1).taken("put(3, 0, 1)", 0);
    }

    private static void putMissing() {
        Edge edge = edge("put. MISSING.", Edge.RICH).refused("put(3, 0, 1)", Due.MISSING);
        edge.refused("put(3, -1, 1)", Due.MISSING).refused("put(3, 36, 1)", Due.MISSING);
        edge.taken("sheet(0, 0, 4)", 0).refused("put(0, 0, 1)", Due.MISSING);
    }

    private static void putBeyondNumber() {
        Edge edge = edge("put. BEYOND: no such number.", Edge.RICH);
        for (int i : new int[] {-1, 4, 5, 35, 36, Edge.LEAST, Edge.MOST}) {
            edge.refused("put(0, " + i + ", 1)", Due.BEYOND);
        }
        edge.refused("put(1, 36, 1)", Due.BEYOND).refused("put(1, -1, 1)", Due.BEYOND);
        edge.refused("put(2, 0, 1)", Due.BEYOND).refused("put(2, -1, 1)", Due.BEYOND);
        edge.taken("put(0, 0, 1)", 0).taken("put(0, 3, 1)", 0).taken("put(1, 0, 1)", 0).taken("put(1, 35, 2)", 0);
        numbersAre(edge, 0, 1, 4, 0, 1);
    }

    // ---- Promise 29: copy

    private static void copyNumbers() {
        Edge edge = edge("n numbers of a sheet from one on come to another one from one on: n.", Edge.RICH);
        edge.done("sheet(3, 8, 3)", "put(3, 0, 1)", "put(3, 1, 2)", "put(3, 2, 4)");
        edge.taken("copy(0, 0, 3, 2, 1)", 1);
        numbersAre(edge, 3, 1, 2, 10);
        edge.taken("copy(0, 3, 3, 0, 1)", 1);
        numbersAre(edge, 3, -1, 2, 10);
        edge.taken("copy(3, 1, 0, 2, 2)", 2);
        numbersAre(edge, 0, 10, 4, 2, 10);
        edge.taken("copy(0, 1, 3, 0, 3)", 3);
        numbersAre(edge, 3, 4, 2, 10);
        numbersAre(edge, 0, 10, 4, 2, 10);
    }

    private static void copyFull() {
        for (int bits = 8; bits <= 32; bits *= 2) {
            Edge edge = edge("copy of 36 numbers", Edge.KINDS);
            edge.done("sheet(0, " + bits + ", 36)", "sheet(3, " + bits + ", 36)", "put(0, 0, 1)", "put(0, 35, 2)");
            edge.refused("copy(0, 0, 3, 0, 37)", Due.BEYOND).refused("copy(0, 1, 3, 0, 36)", Due.BEYOND);
            edge.refused("copy(0, 0, 3, 1, 36)", Due.BEYOND).taken("copy(0, 0, 3, 0, 36)", 36);
            int[] due = new int[36];
            due[0] = 1;
            due[35] = 2;
            numbersAre(edge, 3, due);
            edge.taken("copy(0, 35, 3, 35, 1)", 1).taken("copy(0, 36, 3, 36, 0)", 0);
            edge.refused("copy(0, 36, 3, 0, 1)", Due.BEYOND).refused("copy(0, 0, 3, 36, 1)", Due.BEYOND);
        }
    }

    private static void copyWithinOne() {
        Edge edge = edge("copy within one sheet", Edge.RICH);
        edge.taken("copy(0, 0, 0, 1, 3)", 3);
        numbersAre(edge, 0, 10, 10, 4, 0);
        edge.taken("copy(0, 1, 0, 0, 3)", 3);
        numbersAre(edge, 0, 10, 4, 0, 0);
        edge.taken("copy(0, 0, 0, 0, 4)", 4);
        numbersAre(edge, 0, 10, 4, 0, 0);
    }

    private static void copyNone() {
        Edge edge = edge("copy of no numbers", Edge.RICH);
        edge.taken("copy(0, 0, 0, 0, 0)", 0).taken("copy(0, 4, 0, 0, 0)", 0);
        edge.taken("copy(2, 0, 2, 0, 0)", 0).refused("copy(2, 0, 2, 0, 1)", Due.BEYOND);
        edge.refused("copy(2, 1, 2, 0, 0)", Due.BEYOND).refused("copy(2, 0, 2, 1, 0)", Due.BEYOND);
        numbersAre(edge, 0, 10, 4, 0, -1);
    }

    private static void copyBeyondSheet() {
        Edge edge = edge("copy. BEYOND: no such sheet (either).", Edge.RICH);
        for (int s : Edge.NO_FOUR) {
            edge.refused("copy(" + s + ", 0, 0, 0, 1)", Due.BEYOND).refused("copy(0, 0, " + s + ", 0, 1)", Due.BEYOND);
            edge.refused("copy(" + s + ", 0, 3, 0, 1)", Due.BEYOND).refused("copy(3, 0, " + s + ", 0, 1)", Due.BEYOND);
            edge.refused("copy(" + s + ", 0, " + s + ", 0, 0)", Due.BEYOND);
        }
        edge.done("sheet(3, 8, 1)").taken("copy(0, 0, 3, 0, 1)", 1).taken("copy(3, 0, 0, 0, 1)", 1);
    }

    private static void copyMissing() {
        Edge edge = edge("copy. MISSING: one is.", Edge.RICH).refused("copy(3, 0, 0, 0, 1)", Due.MISSING);
        edge.refused("copy(0, 0, 3, 0, 1)", Due.MISSING).refused("copy(3, 0, 3, 0, 0)", Due.MISSING);
        edge.refused("copy(3, -1, 0, 0, 1)", Due.MISSING).refused("copy(0, 0, 3, -1, 99)", Due.MISSING);
        edge.refused("copy(1, 0, 3, 0, -1)", Due.MISSING);
    }

    private static void copyKind() {
        Edge edge = edge("copy. KIND: they are not of as many bits.", Edge.RICH);
        for (int s = 0; s < 3; s++) {
            int t = (s + 1) % 3;
            edge.refused("copy(" + s + ", 0, " + t + ", 0, 0)", Due.KIND);
            edge.refused("copy(" + t + ", 0, " + s + ", 0, 1)", Due.KIND);
            edge.refused("copy(" + s + ", -1, " + t + ", 0, 0)", Due.KIND);
            edge.refused("copy(" + s + ", 0, " + t + ", -1, 0)", Due.KIND);
            edge.refused("copy(" + s + ", 0, " + t + ", 0, -1)", Due.KIND);
            edge.refused("copy(" + s + ", 0, " + t + ", 0, 99)", Due.KIND);
        }
        edge.done("sheet(3, 16, 36)").taken("copy(1, 0, 3, 0, 36)", 36);
    }

    private static void copyHasNotSoMany() {
        Edge edge = edge("copy. BEYOND: one has not so many", Edge.RICH).done("sheet(3, 8, 2)");
        edge.refused("copy(0, 0, 3, 0, 3)", Due.BEYOND).refused("copy(3, 0, 0, 0, 3)", Due.BEYOND);
        edge.refused("copy(0, 3, 3, 0, 2)", Due.BEYOND).refused("copy(3, 0, 0, 3, 2)", Due.BEYOND);
        edge.refused("copy(0, 0, 3, 1, 2)", Due.BEYOND).refused("copy(3, 1, 0, 0, 2)", Due.BEYOND);
        edge.refused("copy(0, 4, 3, 0, 1)", Due.BEYOND).refused("copy(3, 0, 0, 4, 1)", Due.BEYOND);
        edge.refused("copy(0, 5, 3, 0, 0)", Due.BEYOND).refused("copy(3, 0, 0, 5, 0)", Due.BEYOND);
        edge.refused("copy(0, 0, 3, 0, " + Edge.MOST + ")", Due.BEYOND);
        edge.refused("copy(0, 2, 3, 1, " + Edge.MOST + ")", Due.BEYOND);
        edge.refused("copy(0, " + Edge.MOST + ", 3, 0, 1)", Due.BEYOND);
        edge.refused("copy(0, 0, 3, " + Edge.MOST + ", 1)", Due.BEYOND);
        edge.refused("copy(0, " + Edge.MOST + ", 3, " + Edge.MOST + ", " + Edge.MOST + ")", Due.BEYOND);
        edge.refused("copy(0, " + Edge.MOST + ", 3, 0, 0)", Due.BEYOND);
        edge.refused("copy(0, 0, 3, " + Edge.MOST + ", 0)", Due.BEYOND);
        edge.taken("copy(0, 2, 3, 0, 2)", 2).taken("copy(3, 0, 0, 2, 2)", 2).taken("copy(0, 3, 3, 1, 1)", 1);
    }

    private static void copyBelowNought() {
        Edge edge = edge("copy. BEYOND: .. or from, to or n is below 0.", Edge.RICH).done("sheet(3, 8, 4)");
        for (int below : new int[] {-1, -4, Edge.LEAST}) {
            for (int n : new int[] {0, 1, 4}) {
                edge.refused("copy(0, " + below + ", 3, 0, " + n + ")", Due.BEYOND);
                edge.refused("copy(0, 0, 3, " + below + ", " + n + ")", Due.BEYOND);
                edge.refused("copy(0, " + n + ", 3, " + n + ", " + below + ")", Due.BEYOND);
            }
            edge.refused("copy(0, " + below + ", 3, " + below + ", " + below + ")", Due.BEYOND);
        }
        edge.taken("copy(0, 0, 3, 0, 0)", 0).taken("copy(0, 0, 3, 0, 4)", 4);
    }

    // ---- Promise 31: told

    private static void toldUnitsActsCounts() {
        Edge edge = edge("0 units, 1 acts, 2 VOID ones, 3 COUNTS");
        edge.taken("told(0)", 0).taken("told(1)", 0).taken("told(2)", 0).taken("told(3)", 0);
        for (int i = 1; i <= 30; i++) {
            if (i <= 10) {
                edge.done("unit(" + i % 3 + ")");
            }
            if (i <= 20) {
                edge.done("count(0, 1000, " + i + ")");
            }
            edge.done("found(0, 1500, 0x1)").taken("told(0)", Math.min(i, 10)).taken("told(1)", i);
            edge.taken("told(2)", i - 1).taken("told(3)", Math.min(i, 20));
        }
        edge.refused("unit(0)", Due.FULL).refused("found(0, 1500, 0x1)", Due.FULL);
        edge.refused("count(0, 1000, 1)", Due.FULL);
        edge.taken("told(0)", 10).taken("told(1)", 30).taken("told(2)", 29).taken("told(3)", 20);
        edge.done("untell()").taken("told(1)", 29).taken("told(2)", 28).taken("told(3)", 20);
        edge("2 VOID ones", Edge.KINDS).done("join(0, 3, 1500)").taken("told(2)", 1).done("found(0, 1500, 0x1)")
            .taken("told(2)", 1).done("found(0, 1499, 0x1)").taken("told(2)", 1).done("untell()", "untell()")
            .taken("told(2)", 1).done("untell()").taken("told(2)", 0);
    }

    private static void toldFindings() {
        Edge edge = edge("4 how many acts (of this bench) answered a finding ever (this one, too, if it does)");
        edge.taken("told(4)", 0).taken("told(4)", 0).refused("told(5)", Due.BEYOND).taken("told(4)", 1);
        edge.refused("told(-1)", Due.BEYOND).taken("told(4)", 2).refused("untell()", Due.NONE).taken("told(4)", 3);
        edge.done("unit(0)", "found(0, 1000, 0x1)", "untell()").taken("told(4)", 3).taken("read(0, 3)", 36);
        edge.refused("put(0, 0, 0)", Due.MISSING).refused("sheet(0, 8, -1)", Due.SIZE).taken("told(4)", 5);
        edge.refused("as(0, 1)", Due.KIND).done("unit(0)", "unit(0)", "unit(0)", "unit(0)", "unit(0)", "unit(0)");
        edge.done("unit(0)", "unit(0)", "unit(0)").refused("unit(0)", Due.FULL).taken("told(4)", 7);
    }

    private static void toldBeyond() {
        Edge edge = edge("told. BEYOND: another what.", Edge.RICH).taken("told(0)", 6).taken("told(4)", 0);
        for (int what : new int[] {-1, 5, Edge.LEAST, Edge.MOST}) {
            edge.refused("told(" + what + ")", Due.BEYOND);
        }
        edge.taken("told(0)", 6).taken("told(4)", 4);
    }
}
