/** 'Terms', points 3 to 6: a test for each sentence that names an edge. */
public final class TermsMoreEdgesTest {
    private static final Due DUE = new Due();

    public static void main(String[] args) {
        area();
        pieces();
        sides();
        borderBetweenUnlike();
        nobodyCountsAsOne();
        ledToTheLatest();
        hundredsAreNotLookedAt();
        mapsNoughtToThree();
        mapsClaimNoHundred();
        mapsClaimNobody();
        agrees();
        bestOfSeveralTheFirst();
        countsAtMostTwenty();
        countsNoHundred();
        peopleNoughtToAMillion();
        carriedToAHundred();
        carriedOnlyWithCells();
        carriedLowestTerms();
        carriedLargest();
        countsLatestTold();
        sheetsNoughtToThree();
        sheetsUpTo36();
        sheetsOfBits();
        sheetsMissingAtFirst();
        DUE.end();
    }

    private static Edge edge(String sentence, String... opening) {
        return new Edge(DUE, sentence, opening);
    }

    private static void shapeIs(String sentence, long set, int what, long due) {
        Edge edge = edge(sentence, Edge.KINDS).done("found(0, 1500, 0xfffffffff)", "found(1, 1600, " + set + ")");
        edge.done("join(1, 3, 1600)").taken("shape(1, 1600, " + what + ")", due);
        edge.taken("shape(1, 1599, " + what + ")", 0);
        edge.taken("shape(3, 1600, " + what + ")", due).taken("shape(3, 1599, " + what + ")", 0);
    }

    // ---- 3. AREA, PIECES, SIDES, BORDERS

    private static void area() {
        String sentence = "AREA: how many cells a unit holds.";
        for (int most = 0; most <= 36; most++) {
            shapeIs(sentence, (1L << most) - 1, 0, most);
        }
    }

    private static void pieces() {
        String sentence = "PIECES: how many heaps of cells its cells make (by steps to cells beside).";
        shapeIs(sentence, 0, 1, 0);
        shapeIs(sentence, Due.FIELD, 1, 1);
        shapeIs(sentence, Due.BOARD, 1, 18);
        shapeIs(sentence, Due.FIELD - Due.BOARD, 1, 18);
        shapeIs(sentence, Due.set(5, 6), 1, 2);
        shapeIs(sentence, Due.set(11, 12), 1, 2);
        shapeIs(sentence, Due.set(29, 30), 1, 2);
        shapeIs(sentence, Due.set(0, 5), 1, 2);
        shapeIs(sentence, Due.set(0, 30), 1, 2);
        shapeIs(sentence, Due.set(5, 35), 1, 2);
        shapeIs(sentence, Due.set(0, 7), 1, 2);
        shapeIs(sentence, Due.set(1, 6), 1, 2);
        shapeIs(sentence, Due.set(34, 35), 1, 1);
        shapeIs(sentence, Due.set(29, 35), 1, 1);
        shapeIs(sentence, Due.set(1, 7, 6), 1, 1);
        shapeIs(sentence, Due.set(1, 7, 5), 1, 2);
        shapeIs(sentence, Due.set(4, 10, 8), 1, 2);
        shapeIs(sentence, Due.set(0, 6, 7, 8, 2), 1, 1);
        shapeIs(sentence, Due.set(0, 5, 30, 35), 1, 4);
        shapeIs(sentence, Due.set(0, 6, 12, 18, 24, 30, 5, 11, 17, 23, 29, 35), 1, 2);
        long rim = Due.set(0, 1, 2, 3, 4, 5, 11, 17, 23, 29, 35, 34, 33, 32, 31, 30);
        shapeIs(sentence, rim | Due.set(24, 18, 12, 13, 14, 15, 21), 1, 1);
        shapeIs(sentence, rim | Due.set(6, 12, 18, 19, 20, 21, 15), 1, 1);
        shapeIs(sentence, rim | Due.set(14, 15, 20, 21), 1, 2);
    }

    private static void sides() {
        String sentence = "SIDES of a unit: pairs of a cell that it holds and one beside that it does not, or the edge";
        shapeIs(sentence, 0, 2, 0);
        shapeIs(sentence, Due.FIELD, 2, 24);
        shapeIs(sentence, Due.BOARD, 2, 72);
        for (int cell : new int[] {0, 5, 30, 35, 3, 12, 17, 33, 14}) {
            shapeIs(sentence, 1L << cell, 2, 4);
        }
        shapeIs(sentence, Due.set(5, 6), 2, 8);
        shapeIs(sentence, Due.set(4, 5), 2, 6);
        shapeIs(sentence, Due.set(5, 11), 2, 6);
        shapeIs(sentence, Due.FIELD - Due.set(0), 2, 24);
        shapeIs(sentence, Due.FIELD - Due.set(3), 2, 26);
        shapeIs(sentence, Due.FIELD - Due.set(14), 2, 28);
        shapeIs(sentence, 63, 2, 14);
        shapeIs(sentence, Due.set(0, 6, 12, 18, 24, 30), 2, 14);
    }

    private static void borderBetweenUnlike() {
        Edge edge = edge("A BORDER is between two cells beside one another that are held by unlike ones", Edge.KINDS);
        edge.done("found(0, 1100, " + Due.set(5, 4, 10) + ")", "found(1, 1200, " + Due.set(6, 11) + ")");
        edge.refused("led(5, 4, 1200)", Due.NONE).refused("led(4, 5, 1200)", Due.NONE);
        edge.refused("led(5, 6, 1200)", Due.SIZE);
        edge.taken("led(5, 11, 1200)", 0).taken("led(10, 11, 1200)", 0).taken("borders(1100)", 5);
        edge.taken("borders(1200)", 9);
    }

    private static void nobodyCountsAsOne() {
        Edge edge = edge("(nobody counts as one)", Edge.KINDS).taken("borders(1500)", 0);
        edge.refused("led(0, 1, 1500)", Due.NONE).done("found(0, 1500, 0x1)").taken("led(0, 1, 1500)", 0);
        edge.taken("borders(1500)", 2).refused("led(1, 2, 1500)", Due.NONE).done("back(0, 1600)");
        edge.refused("led(0, 1, 1600)", Due.NONE).taken("borders(1600)", 0);
        edge.done("found(1, 1700, 0xffffffffe)").taken("led(0, 1, 1700)", 2).taken("borders(1700)", 2);
    }

    private static void ledToTheLatest() {
        Edge edge = edge("It is LED to the latest act up to that YEAR behind which they were so, but ahead of which "
            + "they were not", Edge.KINDS);
        edge.done("found(0, 1500, 0x1)", "found(1, 1500, 0x2)", "found(2, 1500, 0x3)", "move(2, 0, 1500, 0x1)");
        edge.taken("led(0, 1, 1500)", 3).taken("led(0, 1, 1999)", 3).refused("led(0, 1, 1499)", Due.NONE);
        edge.done("move(0, 1, 1501, 0x1)").taken("led(0, 1, 1501)", 3).done("found(2, 1499, 0x1)");
        edge.taken("led(0, 1, 1499)", 5).taken("act(2, 2)", 1).taken("led(0, 1, 1500)", 5).taken("act(3, 2)", 1);
        edge.taken("led(0, 1, 1501)", Due.NONE).taken("led(1, 2, 1501)", 1);
        edge.done("untell()").taken("led(0, 1, 1501)", 3).taken("led(0, 1, 1500)", 3);
    }

    private static void hundredsAreNotLookedAt() {
        Edge edge = edge("(HUNDREDS are not looked at in this)", Edge.KINDS).done("found(0, 1100, 0x1)");
        edge.done("found(1, 1100, 0x2)", "join(0, 3, 1200)", "join(1, 3, 1200)").taken("led(0, 1, 1200)", 0);
        edge.taken("borders(1199)", 4).taken("borders(1200)", 4).taken("led(0, 1, 1199)", 0);
        edge.taken("shape(3, 1200, 2)", 6).taken("who(0, 1200)", 0);
    }

    // ---- 4. MAPS

    private static void mapsNoughtToThree() {
        Edge edge = edge("MAPS 0 to 3 are of a YEAR", Edge.RICH);
        edge.refused("map(-1, 1500)", Due.BEYOND).refused("map(4, 1500)", Due.BEYOND);
        edge.refused("read(-1, 0)", Due.BEYOND).refused("read(4, 0)", Due.BEYOND);
        edge.refused("claim(-1, 0, 0)", Due.BEYOND).refused("claim(4, 0, 0)", Due.BEYOND);
        edge.refused("best(-1, 1000, 1999)", Due.BEYOND).refused("best(4, 1000, 1999)", Due.BEYOND);
        edge.refused("lay(-1, 0)", Due.BEYOND).refused("lay(4, 0)", Due.BEYOND);
        for (int map = 0; map < 4; map++) {
            edge.done("map(" + map + ", " + (1500 + map) + ")");
        }
        for (int map = 0; map < 4; map++) {
            edge.taken("read(" + map + ", 0)", 1500 + map).taken("best(" + map + ", 1999, 1999)", 1999);
            edge.done("claim(" + map + ", 20, " + (map < 3 ? map : 4) + ")");
        }
        edge.taken("quarrel(0, 3)", 20).taken("quarrel(3, 0)", 20).taken("quarrel(1, 2)", 20).taken("lay(3, 0)", 3);
    }

    private static void mapsClaimNoHundred() {
        Edge edge = edge("CLAIMS: of cells, by which unit (no HUNDRED) they are held", Edge.RICH);
        edge.refused("claim(0, 0, 3)", Due.KIND).refused("claim(0, 0, 5)", Due.KIND).taken("claim(0, 0, 4)", 1);
        edge.refused("claim(0, 0, 6)", Due.BEYOND).refused("claim(0, -1, 0)", Due.BEYOND);
        edge.refused("claim(0, 36, 0)", Due.BEYOND).taken("claim(0, 35, 0)", 1).taken("claim(0, 0, 0)", 1);
    }

    private static void mapsClaimNobody() {
        Edge edge = edge("or by nobody (10)", Edge.RICH).taken("claim(2, 0, 10)", 0).taken("read(2, 2)", 1);
        edge.refused("claim(2, 0, 11)", Due.BEYOND).refused("claim(2, 0, 9)", Due.BEYOND).done("map(2, 1100)");
        edge.taken("read(2, 2)", 0).taken("read(2, 3)", 0).taken("read(2, 1)", 1);
    }

    private static void agrees() {
        Edge edge = edge("A MAP AGREES AT a YEAR with as many CLAIMS as are so then.", Edge.KINDS);
        edge.done("found(0, 1500, 0xfffffffff)", "map(0, 1500)", "map(1, 1499)").taken("read(0, 2)", 0);
        for (int cell = 0; cell < 36; cell++) {
            edge.done("claim(0, " + cell + ", 0)", "claim(1, " + cell + ", 0)").taken("read(0, 2)", cell + 1);
            edge.taken("read(1, 2)", 0);
        }
        edge.taken("read(0, 3)", 36).taken("read(1, 3)", 0).done("claim(0, 35, 10)").taken("read(0, 2)", 35);
        edge.taken("read(0, 3)", 35).done("map(0, 1499)").taken("read(0, 2)", 1).taken("read(0, 3)", 0);
    }

    private static void bestOfSeveralTheFirst() {
        Edge edge = edge("that at which it AGREES with most; of several the first", Edge.KINDS);
        edge.taken("best(0, 1000, 1999)", 1000).taken("best(0, 1999, 1999)", 1999);
        edge.done("claim(0, 0, 0)", "claim(0, 1, 1)").taken("best(0, 1000, 1999)", 1000);
        edge.done("found(0, 1200, 0x1)", "found(1, 1300, 0x1)", "found(2, 1400, 0x0)", "move(1, 0, 1500, 0x1)");
        edge.taken("best(0, 1000, 1999)", 1200).taken("best(0, 1250, 1999)", 1250).taken("best(0, 1300, 1999)", 1500);
        edge.taken("best(0, 1300, 1499)", 1300).taken("best(0, 1000, 1199)", 1000).taken("best(0, 1000, 1200)", 1200);
        edge.done("move(0, 1, 1998, 0x1)", "swallow(1, 2, 1998)", "found(1, 1999, 0x2)", "move(2, 0, 1999, 0x1)");
        edge.taken("best(0, 1000, 1999)", 1999).taken("best(0, 1000, 1998)", 1200).taken("best(0, 1998, 1998)", 1998);
    }

    // ---- 5. COUNTS

    private static void countsAtMostTwenty() {
        Edge edge = edge("COUNTS, at most 20", Edge.KINDS);
        for (int i = 1; i <= 20; i++) {
            edge.taken("count(" + i % 3 + ", " + (1000 + i / 3) + ", " + i + ")", i);
        }
        edge.refused("count(0, 1999, 1)", Due.FULL).refused("count(0, 1000, 1)", Due.FULL).taken("told(3)", 20);
        edge.taken("people(1006)", 18 + 19 + 20).taken("people(1000)", 3);
    }

    private static void countsNoHundred() {
        Edge edge = edge("of a unit (no HUNDRED) at a YEAR", Edge.RICH);
        edge.refused("count(3, 1100, 1)", Due.KIND).refused("count(5, 1100, 1)", Due.KIND);
        edge.refused("count(0, 999, 1)", Due.BEYOND).refused("count(0, 2000, 1)", Due.BEYOND);
        edge.taken("count(4, 1000, 1)", 4).taken("count(4, 1999, 1)", 5);
    }

    private static void peopleNoughtToAMillion() {
        Edge edge = edge("so many people (0 to 1000000)", Edge.RICH);
        edge.refused("count(0, 1100, -1)", Due.BEYOND).refused("count(0, 1100, 1000001)", Due.BEYOND);
        edge.taken("count(0, 1100, 0)", 4).taken("people(1100)", 0).taken("count(0, 1100, 1000000)", 5);
        edge.taken("people(1100)", 1000000).taken("carried(1100, 0, 1100, false)", 1000000);
    }

    private static void carriedToAHundred() {
        Edge edge = edge("CARRIED .. to a unit (a HUNDRED, too) at a YEAR z", Edge.KINDS);
        edge.done("found(0, 1000, 0x7)", "count(0, 1000, 2)");
        edge.fraction(1000, 3, 1999, 0, 1);
        edge.done("join(0, 3, 1000)");
        edge.fraction(1000, 3, 1000, 2, 1);
        edge.done("found(1, 1500, 0x1)", "found(2, 1500, 0x2)", "join(2, 3, 1600)");
        edge.fraction(1000, 3, 1500, 2, 3);
        edge.fraction(1000, 3, 1600, 4, 3);
        edge.fraction(1000, 1, 1999, 2, 3);
    }

    private static void carriedOnlyWithCells() {
        Edge edge = edge("of all COUNTS of YEAR y whose unit holds cells then", Edge.KINDS);
        edge.done("found(0, 1500, 0x1)", "found(1, 1500, 0x0)", "count(0, 1499, 4)", "count(1, 1500, 4)");
        edge.fraction(1499, 0, 1500, 0, 1);
        edge.fraction(1500, 0, 1500, 0, 1);
        edge.done("count(0, 1500, 3)");
        edge.fraction(1500, 0, 1500, 3, 1);
        edge.fraction(1501, 0, 1500, 0, 1);
        edge.fraction(1500, 0, 1499, 0, 1);
        edge.fraction(1500, 1, 1500, 0, 1);
    }

    private static void carriedLowestTerms() {
        Edge edge = edge("by how many there are; all together (a FRACTION, in lowest terms)", Edge.KINDS);
        edge.done("found(0, 1100, 0xfffffffff)", "found(1, 1200, 0x1)", "count(0, 1100, 1)");
        edge.fraction(1100, 1, 1200, 1, 36);
        edge.fraction(1100, 0, 1200, 35, 36);
        edge.fraction(1100, 0, 1100, 1, 1);
        edge.done("count(0, 1100, 1000000)");
        edge.fraction(1100, 1, 1200, 250000, 9);
        edge.fraction(1100, 0, 1200, 8750000, 9);
        edge.done("count(0, 1100, 36)");
        edge.fraction(1100, 1, 1200, 1, 1);
        edge.done("count(0, 1100, 0)");
        edge.fraction(1100, 1, 1200, 0, 1);
        edge.done("found(2, 1300, 0xfffff0000)", "count(0, 1300, 1)", "count(2, 1300, 1)", "swallow(0, 1, 1400)");
        edge.fraction(1300, 1, 1400, 1, 1);
        edge.fraction(1300, 2, 1400, 1, 1);
    }

    /** Areas that fill the field, with a line as large as they can make it. */
    private static void carriedLargest() {
        int[][] areas = {
            {1, 2, 3, 4, 5, 7, 11}, {5, 7, 11, 13}, {1, 1, 1, 2, 3, 4, 5, 7, 11}, {36}, {4, 4, 4, 4, 4, 4, 4, 4, 3}};
        for (int[] area : areas) {
            Edge edge = edge("CARRIED from the most people and the most parts");
            int cell = 0;
            long firsts = 0;
            long line = 1;
            for (int unit = 0; unit < area.length; unit++) {
                edge.done("unit(0)", "found(" + unit + ", 1000, " + ((1L << area[unit]) - 1 << cell) + ")");
                edge.done("count(" + unit + ", 1000, " + (1000000 - unit) + ")");
                firsts |= 1L << cell;
                cell += area[unit];
                line *= area[unit];
            }
            long above = 0;
            for (int unit = 0; unit < area.length; unit++) {
                above += (1000000 - unit) * (line / area[unit]);
            }
            long common = java.math.BigInteger.valueOf(above).gcd(java.math.BigInteger.valueOf(line)).longValueExact();
            edge.done("unit(0)", "found(" + area.length + ", 1999, " + firsts + ")");
            edge.fraction(1000, area.length, 1999, above / common, line / common);
        }
    }

    private static void countsLatestTold() {
        Edge edge = edge("(Two COUNTS of one unit and YEAR: the latest told.)", Edge.KINDS);
        edge.done("found(0, 1500, 0x3)", "found(1, 1600, 0x1)", "count(0, 1500, 9)", "count(0, 1500, 4)");
        edge.fraction(1500, 1, 1600, 2, 1);
        edge.done("count(0, 1499, 7)", "count(0, 1501, 7)", "count(1, 1500, 7)");
        edge.fraction(1500, 1, 1600, 2, 1);
        edge.done("count(0, 1500, 0)");
        edge.fraction(1500, 1, 1600, 0, 1);
        edge.taken("people(1500)", 7).taken("told(3)", 6);
    }

    // ---- 6. SHEETS

    private static void sheetsNoughtToThree() {
        Edge edge = edge("SHEETS 0 to 3", Edge.KINDS);
        for (int s : new int[] {-1, 4}) {
            edge.refused("sheet(" + s + ", 8, 1)", Due.BEYOND).refused("put(" + s + ", 0, 1)", Due.BEYOND);
            edge.refused("lay(0, " + s + ")", Due.BEYOND).refused("copy(" + s + ", 0, 0, 0, 0)", Due.BEYOND);
            edge.refused("copy(0, 0, " + s + ", 0, 0)", Due.BEYOND);
        }
        for (int s = 0; s < 4; s++) {
            edge.taken("sheet(" + s + ", 8, " + (s + 1) + ")", s + 1).taken("put(" + s + ", " + s + ", 1)", 0);
        }
        for (int s = 0; s < 4; s++) {
            edge.taken("lay(0, " + s + ")", s + 1).refused("put(" + s + ", " + (s + 1) + ", 1)", Due.BEYOND);
        }
    }

    private static void sheetsUpTo36() {
        for (int bits = 8; bits <= 32; bits *= 2) {
            Edge edge = edge("rows of up to 36 numbers", Edge.KINDS);
            edge.refused("sheet(0, " + bits + ", 37)", Due.BEYOND).refused("sheet(0, " + bits + ", -1)", Due.SIZE);
            edge.taken("sheet(0, " + bits + ", 36)", 36).taken("put(0, 35, 10)", 0);
            edge.refused("put(0, 36, 0)", Due.BEYOND);
            edge.taken("lay(0, 0)", 36).taken("sheet(0, " + bits + ", 0)", 0).refused("put(0, 0, 0)", Due.BEYOND);
            edge.taken("lay(0, 0)", 0);
        }
    }

    private static void sheetsOfBits() {
        Edge edge = edge("of 8, 16 or 32 bits", Edge.KINDS);
        for (int bits = -1; bits <= 65; bits++) {
            boolean fine = bits == 0 || bits == 8 || bits == 16 || bits == 32;
            if (!fine) {
                edge.refused("sheet(0, " + bits + ", 1)", Due.BEYOND);
            }
        }
        edge.taken("sheet(0, 8, 1)", 1).taken("put(0, 0, 256)", 0).taken("lay(0, 0)", 1);
        edge.taken("sheet(0, 16, 1)", 1).taken("put(0, 0, 256)", 0).taken("lay(0, 0)", 0);
        edge.taken("put(0, 0, 65536)", 0).taken("lay(0, 0)", 1);
        edge.taken("sheet(0, 32, 1)", 1).taken("put(0, 0, 65536)", 0).taken("lay(0, 0)", 0);
    }

    private static void sheetsMissingAtFirst() {
        Edge edge = edge("or MISSING (all, at first)", Edge.KINDS);
        for (int s = 0; s < 4; s++) {
            edge.refused("put(" + s + ", 0, 0)", Due.MISSING).refused("lay(0, " + s + ")", Due.MISSING);
            edge.refused("copy(" + s + ", 0, " + (s + 1) % 4 + ", 0, 0)", Due.MISSING);
        }
        edge.taken("sheet(0, 8, 0)", 0).refused("put(0, 0, 0)", Due.BEYOND).refused("put(1, 0, 0)", Due.MISSING);
        edge.taken("sheet(0, 0, 0)", 0).refused("put(0, 0, 0)", Due.MISSING);
    }
}
