/** Promises 1 to 10: a new object, unit, as, found, move, swallow, back, join, act, untell. */
public final class UnitsActsTest {
    private static final Due DUE = new Due();

    public static void main(String[] args) {
        aNewObject();
        unit();
        asKinds();
        foundFindings();
        foundDone();
        moveFindings();
        moveDone();
        swallowFindings();
        swallowDone();
        backFindings();
        backOfFound();
        backOfMove();
        backOfSwallow();
        backOnlyWhatIsStillHeld();
        backOfVoidAct();
        backToSeveral();
        joinFindings();
        joinDone();
        actFindings();
        actKindsAndPlaces();
        orderOfOneYear();
        lateTellingChangesOutcome();
        untell();
        untellInTheMiddle();
        full();
        DUE.end();
    }

    private static void aNewObject() {
        ShireLines x = new ShireLines();
        for (int what = 0; what <= 4; what++) {
            DUE.is("new: told(" + what + ")", x.told(what), 0);
        }
        for (int map = 0; map < 4; map++) {
            DUE.is("new: read(" + map + ", 0)", x.read(map, 0), 1000);
            DUE.is("new: read(" + map + ", 1)", x.read(map, 1), 0);
            DUE.is("new: read(" + map + ", 2)", x.read(map, 2), 0);
            DUE.is("new: read(" + map + ", 3)", x.read(map, 3), 36);
        }
        for (int s = 0; s < 4; s++) {
            DUE.is("new: put(" + s + ", 0, 0)", x.put(s, 0, 0), Due.MISSING);
        }
        for (int cell = 0; cell < 36; cell++) {
            DUE.is("new: who(" + cell + ", 1000)", x.who(cell, 1000), 10);
        }
        DUE.is("new: people(1000)", x.people(1000), 0);
        DUE.is("new: there(0, 1000)", x.there(0, 1000), Due.BEYOND);
        DUE.is("new: act(0, 0)", x.act(0, 0), Due.BEYOND);
    }

    private static void unit() {
        ShireLines x = new ShireLines();
        DUE.is("unit(-1)", x.unit(-1), Due.BEYOND);
        DUE.is("unit(4)", x.unit(4), Due.BEYOND);
        for (int i = 0; i < 10; i++) {
            DUE.is("unit " + i, x.unit(i % 4), i);
        }
        DUE.is("eleventh unit", x.unit(0), Due.FULL);
        DUE.is("BEYOND is asked ahead of FULL", x.unit(4), Due.BEYOND);
        DUE.is("units stay ten", x.told(0), 10);
        DUE.is("the tenth is THERE as founded", x.found(9, 1000, 1), 0);
        DUE.is("who of the tenth", x.who(0, 1000), 9);
    }

    private static void asKinds() {
        ShireLines x = Due.desk();
        long[][] due = {
            {0, Due.KIND, Due.KIND, Due.KIND},
            {1, 1, Due.KIND, Due.KIND},
            {2, 2, 2, Due.KIND},
            {3, Due.KIND, Due.KIND, 3},
        };
        for (int unit = 0; unit < 4; unit++) {
            for (int kind = 0; kind < 4; kind++) {
                DUE.is("as(" + unit + ", " + kind + ")", x.as(unit, kind), due[unit][kind]);
            }
        }
        DUE.is("as(-1, 0)", x.as(-1, 0), Due.BEYOND);
        DUE.is("as(6, 0)", x.as(6, 0), Due.BEYOND);
        DUE.is("as(0, -1)", x.as(0, -1), Due.BEYOND);
        DUE.is("as(0, 4)", x.as(0, 4), Due.BEYOND);
        DUE.is("as(max, 0)", x.as(Integer.MAX_VALUE, 0), Due.BEYOND);
    }

    private static void foundFindings() {
        ShireLines x = Due.desk();
        DUE.is("found: no such unit", x.found(6, 1000, 1), Due.BEYOND);
        DUE.is("found: unit -1", x.found(-1, 1000, 1), Due.BEYOND);
        DUE.is("found: year 999", x.found(0, 999, 1), Due.BEYOND);
        DUE.is("found: year 2000", x.found(0, 2000, 1), Due.BEYOND);
        DUE.is("found: bit 36", x.found(0, 1000, 1L << 36), Due.BEYOND);
        DUE.is("found: bit 62", x.found(0, 1000, 1L << 62), Due.BEYOND);
        DUE.is("found: below 0", x.found(0, 1000, Long.MIN_VALUE), Due.BEYOND);
        DUE.is("found: HUNDRED", x.found(3, 1000, 1), Due.KIND);
        DUE.is("found: HUNDRED and no year", x.found(3, 999, 1), Due.BEYOND);
        DUE.is("no act was told", x.told(1), 0);
        DUE.is("found: bit 35", x.found(0, 1000, 1L << 35), 0);
        DUE.is("found: empty set, last year", x.found(1, 1999, 0), 1);
        fill(x);
        DUE.is("found: KIND ahead of FULL", x.found(3, 1000, 1), Due.KIND);
        DUE.is("found: FULL", x.found(0, 1000, 1), Due.FULL);
    }

    private static void foundDone() {
        ShireLines x = Due.desk();
        x.found(0, 1100, Due.set(0, 1, 2));
        x.found(4, 1200, Due.set(2, 3));
        DUE.is("taken from who held it", x.cells(0, 1200), Due.set(0, 1));
        DUE.is("held by the founded", x.cells(4, 1200), Due.set(2, 3));
        DUE.is("it came from nobody and from 0", x.act(1, 3), 2);
        DUE.is("not VOID", x.act(1, 2), 0);
        DUE.is("founded while THERE is told", x.found(0, 1300, Due.set(9)), 2);
        DUE.is("it is VOID", x.act(2, 2), 1);
        DUE.is("no cell came by it", x.act(2, 3), 0);
        DUE.is("nobody holds the cell", x.who(9, 1300), 10);
        x.swallow(0, 4, 1250);
        DUE.is("not VOID when it was swallowed ahead", x.act(2, 2), 0);
        DUE.is("held again", x.cells(0, 1300), Due.set(9));
        x.found(1, 1400, 0);
        DUE.is("THERE without cells", x.there(1, 1400), 1);
        DUE.is("no cells came", x.act(4, 3), 0);
        DUE.is("not VOID without cells", x.act(4, 2), 0);
    }

    private static void moveFindings() {
        ShireLines x = Due.desk();
        DUE.is("move: from", x.move(6, 0, 1000, 1), Due.BEYOND);
        DUE.is("move: to", x.move(0, -1, 1000, 1), Due.BEYOND);
        DUE.is("move: year 999", x.move(0, 1, 999, 1), Due.BEYOND);
        DUE.is("move: year 2000", x.move(0, 1, 2000, 1), Due.BEYOND);
        DUE.is("move: set above", x.move(0, 1, 1000, 1L << 36), Due.BEYOND);
        DUE.is("move: set below 0", x.move(0, 1, 1000, -1), Due.BEYOND);
        DUE.is("move: one, no year", x.move(0, 0, 999, 1), Due.BEYOND);
        DUE.is("move: from HUNDRED", x.move(3, 0, 1000, 1), Due.KIND);
        DUE.is("move: to HUNDRED", x.move(0, 3, 1000, 1), Due.KIND);
        DUE.is("move: KIND ahead of SIZE", x.move(3, 3, 1000, 1), Due.KIND);
        DUE.is("move: SIZE", x.move(1, 1, 1000, 1), Due.SIZE);
        DUE.is("no act was told", x.told(1), 0);
        fill(x);
        DUE.is("move: SIZE ahead of FULL", x.move(1, 1, 1000, 1), Due.SIZE);
        DUE.is("move: FULL", x.move(0, 1, 1000, 1), Due.FULL);
    }

    private static void moveDone() {
        ShireLines x = Due.desk();
        x.found(0, 1100, Due.set(0, 1, 2, 3));
        x.found(1, 1100, Due.set(6));
        x.found(2, 1100, Due.set(7));
        DUE.is("move", x.move(0, 1, 1200, Due.set(1, 2, 7, 20)), 3);
        DUE.is("only what the first held", x.act(3, 3), 2);
        DUE.is("first", x.cells(0, 1200), Due.set(0, 3));
        DUE.is("second", x.cells(1, 1200), Due.set(1, 2, 6));
        DUE.is("third", x.cells(2, 1200), Due.set(7));
        DUE.is("none of the set", x.act((int) x.move(0, 1, 1201, Due.set(1, 9)), 2), 1);
        DUE.is("empty set", x.act((int) x.move(0, 1, 1201, 0), 2), 1);
        DUE.is("second not THERE", x.act((int) x.move(0, 4, 1201, Due.set(0)), 2), 1);
        DUE.is("first not THERE", x.act((int) x.move(4, 0, 1201, Due.set(0)), 2), 1);
        DUE.is("nothing changed", x.cells(0, 1999), Due.set(0, 3));
        DUE.is("all of it", x.act((int) x.move(0, 1, 1300, Due.FIELD), 3), 2);
        DUE.is("the first stays THERE without cells", x.there(0, 1300), 1);
    }

    private static void swallowFindings() {
        ShireLines x = Due.desk();
        DUE.is("swallow: unit", x.swallow(6, 0, 1000), Due.BEYOND);
        DUE.is("swallow: by", x.swallow(0, 6, 1000), Due.BEYOND);
        DUE.is("swallow: -1", x.swallow(0, -1, 1000), Due.BEYOND);
        DUE.is("swallow: year 999", x.swallow(0, 1, 999), Due.BEYOND);
        DUE.is("swallow: year 2000", x.swallow(0, 0, 2000), Due.BEYOND);
        DUE.is("swallow: HUNDRED", x.swallow(3, 0, 1000), Due.KIND);
        DUE.is("swallow: by HUNDRED", x.swallow(0, 3, 1000), Due.KIND);
        DUE.is("swallow: KIND ahead of SIZE", x.swallow(3, 3, 1000), Due.KIND);
        DUE.is("swallow: SIZE", x.swallow(0, 0, 1000), Due.SIZE);
        DUE.is("no act was told", x.told(1), 0);
        fill(x);
        DUE.is("swallow: SIZE ahead of FULL", x.swallow(0, 0, 1000), Due.SIZE);
        DUE.is("swallow: FULL", x.swallow(0, 1, 1000), Due.FULL);
    }

    private static void swallowDone() {
        ShireLines x = Due.desk();
        x.found(0, 1100, Due.set(0, 1, 2));
        x.found(1, 1100, Due.set(6));
        x.found(2, 1100, Due.set(7));
        DUE.is("by one that is not THERE", x.act((int) x.swallow(0, 4, 1150), 2), 1);
        DUE.is("one that is not THERE", x.act((int) x.swallow(4, 0, 1150), 2), 1);
        DUE.is("a TOWN", x.act((int) x.swallow(2, 0, 1150), 2), 1);
        DUE.is("the TOWN is THERE", x.there(2, 1150), 1);
        DUE.is("by a TOWN", x.swallow(0, 2, 1200), 6);
        DUE.is("not VOID", x.act(6, 2), 0);
        DUE.is("cells came", x.act(6, 3), 3);
        DUE.is("held by the second", x.cells(2, 1200), Due.set(0, 1, 2, 7));
        DUE.is("not THERE any more", x.there(0, 1200), 0);
        DUE.is("THERE the year ahead", x.there(0, 1199), 1);
        DUE.is("holds nothing", x.cells(0, 1200), 0);
        DUE.is("a PARISH", x.act((int) x.swallow(1, 2, 1201), 2), 0);
        DUE.is("a PARISH is not THERE", x.there(1, 1201), 0);
    }

    private static void backFindings() {
        ShireLines x = Due.desk();
        DUE.is("back: no act", x.back(0, 1000), Due.BEYOND);
        x.found(0, 1500, 1);
        x.join(0, 3, 1500);
        DUE.is("back: act -1", x.back(-1, 1500), Due.BEYOND);
        DUE.is("back: act 2", x.back(2, 1500), Due.BEYOND);
        DUE.is("back: ahead of its year", x.back(0, 1499), Due.BEYOND);
        DUE.is("back: year 2000", x.back(0, 2000), Due.BEYOND);
        DUE.is("back: JOIN ahead of its year", x.back(1, 1499), Due.BEYOND);
        DUE.is("back: JOIN", x.back(1, 1500), Due.KIND);
        DUE.is("no act was told", x.told(1), 2);
        DUE.is("back: of its year", x.back(0, 1500), 2);
        DUE.is("back: BACK", x.back(2, 1500), Due.KIND);
        fill(x);
        DUE.is("back: KIND ahead of FULL", x.back(1, 1500), Due.KIND);
        DUE.is("back: FULL", x.back(0, 1999), Due.FULL);
    }

    private static void backOfFound() {
        ShireLines x = Due.desk();
        x.found(0, 1100, Due.set(0, 1));
        x.found(1, 1200, Due.set(1, 2));
        DUE.is("back", x.back(1, 1300), 2);
        DUE.is("not VOID", x.act(2, 2), 0);
        DUE.is("both cells", x.act(2, 3), 2);
        DUE.is("to whom held it", x.who(1, 1300), 0);
        DUE.is("to nobody", x.who(2, 1300), 10);
        DUE.is("still THERE", x.there(1, 1300), 1);
        DUE.is("a second time is VOID", x.act((int) x.back(1, 1400), 2), 1);
    }

    private static void backOfMove() {
        ShireLines x = Due.desk();
        x.found(0, 1100, Due.set(0, 1, 2));
        x.found(1, 1100, Due.set(6));
        x.move(0, 1, 1200, Due.set(1, 2));
        DUE.is("back in the year of the act", x.back(2, 1200), 3);
        DUE.is("it is done behind", x.cells(0, 1200), Due.set(0, 1, 2));
        DUE.is("what it held of its own stays", x.cells(1, 1200), Due.set(6));
    }

    private static void backOfSwallow() {
        ShireLines x = Due.desk();
        x.found(0, 1100, Due.set(0, 1, 2));
        x.found(1, 1100, Due.set(6));
        x.swallow(0, 1, 1200);
        x.back(2, 1300);
        DUE.is("VOID: the swallowed is not THERE", x.act(3, 2), 1);
        DUE.is("nothing came", x.act(3, 3), 0);
        x.found(0, 1250, Due.set(35));
        DUE.is("not VOID: founded again", x.act(3, 2), 0);
        DUE.is("its cells came", x.act(3, 3), 3);
        DUE.is("held", x.cells(0, 1300), Due.set(0, 1, 2, 35));
    }

    private static void backOnlyWhatIsStillHeld() {
        ShireLines x = Due.desk();
        x.found(0, 1100, Due.set(0, 1, 2, 3));
        x.found(1, 1100, Due.set(6));
        x.found(4, 1100, 0);
        x.move(0, 1, 1200, Due.set(0, 1, 2));
        x.move(1, 4, 1250, Due.set(1, 6));
        DUE.is("back", x.back(3, 1300), 5);
        DUE.is("only two", x.act(5, 3), 2);
        DUE.is("first", x.cells(0, 1300), Due.set(0, 2, 3));
        DUE.is("third keeps its", x.cells(4, 1300), Due.set(1, 6));
        x.move(4, 1, 1400, Due.set(1));
        DUE.is("later the cell is with the receiver again", x.act((int) x.back(3, 1500), 3), 1);
        DUE.is("first has it", x.who(1, 1500), 0);
    }

    private static void backOfVoidAct() {
        ShireLines x = Due.desk();
        x.found(0, 1100, Due.set(0));
        x.found(0, 1200, Due.set(1));
        DUE.is("back of a VOID act", x.back(1, 1300), 2);
        DUE.is("VOID", x.act(2, 2), 1);
        x.found(1, 1300, 0);
        x.back(3, 1300);
        DUE.is("back of an act without cells", x.act(4, 2), 1);
        x.found(2, 1400, Due.set(5));
        x.move(2, 0, 1500, Due.set(5));
        x.back(5, 1600);
        DUE.is("VOID: held by another one now", x.act(7, 2), 1);
        x.move(0, 2, 1550, Due.set(5));
        DUE.is("held again by whom it gave it", x.act(7, 2), 0);
        DUE.is("nobody", x.who(5, 1600), 10);
    }

    private static void backToSeveral() {
        ShireLines x = Due.desk();
        x.found(0, 1100, Due.set(0, 1));
        x.found(1, 1100, Due.set(2, 3));
        x.found(2, 1100, Due.set(4));
        x.found(4, 1200, Due.set(1, 2, 3, 4, 5));
        x.swallow(1, 0, 1250);
        x.back(3, 1300);
        DUE.is("some go back", x.act(5, 3), 3);
        DUE.is("to 0", x.cells(0, 1300), Due.set(0, 1));
        DUE.is("to 2", x.cells(2, 1300), Due.set(4));
        DUE.is("to nobody", x.who(5, 1300), 10);
        DUE.is("the rest stays", x.cells(4, 1300), Due.set(2, 3));
    }

    private static void joinFindings() {
        ShireLines x = Due.desk();
        DUE.is("join: unit", x.join(6, 3, 1000), Due.BEYOND);
        DUE.is("join: hundred", x.join(0, 6, 1000), Due.BEYOND);
        DUE.is("join: -1", x.join(-1, 3, 1000), Due.BEYOND);
        DUE.is("join: year 999", x.join(0, 3, 999), Due.BEYOND);
        DUE.is("join: year 2000", x.join(3, 3, 2000), Due.BEYOND);
        DUE.is("join: a HUNDRED", x.join(3, 5, 1000), Due.KIND);
        DUE.is("join: to no HUNDRED", x.join(0, 1, 1000), Due.KIND);
        DUE.is("join: to itself", x.join(0, 0, 1000), Due.KIND);
        DUE.is("no act was told", x.told(1), 0);
        fill(x);
        DUE.is("join: KIND ahead of FULL", x.join(0, 1, 1000), Due.KIND);
        DUE.is("join: FULL", x.join(0, 3, 1000), Due.FULL);
    }

    private static void joinDone() {
        ShireLines x = Due.desk();
        DUE.is("join", x.join(0, 3, 1200), 0);
        DUE.is("VOID: not THERE", x.act(0, 2), 1);
        DUE.is("under none", x.under(0, 1200), Due.NONE);
        x.found(0, 1100, Due.set(0, 1));
        DUE.is("not VOID", x.act(0, 2), 0);
        DUE.is("no cell came to another holder", x.act(0, 3), 0);
        DUE.is("under", x.under(0, 1200), 3);
        x.join(0, 5, 1300);
        DUE.is("under another one", x.under(0, 1300), 5);
        DUE.is("the first HUNDRED holds no more", x.cells(3, 1300), 0);
        DUE.is("the second one does", x.cells(5, 1300), Due.set(0, 1));
        x.join(0, 5, 1350);
        DUE.is("joined again is not VOID", x.act(3, 2), 0);
        x.found(1, 1100, 0);
        x.swallow(0, 1, 1400);
        DUE.is("not THERE any more, under none", x.under(0, 1400), Due.NONE);
        DUE.is("the swallowing one is under none", x.under(1, 1400), Due.NONE);
        DUE.is("the HUNDRED holds nothing", x.cells(5, 1400), 0);
        x.found(0, 1500, Due.set(9));
        DUE.is("founded again, under none", x.under(0, 1500), Due.NONE);
    }

    private static void actFindings() {
        ShireLines x = Due.desk();
        x.found(0, 1100, 1);
        DUE.is("act(-1, 0)", x.act(-1, 0), Due.BEYOND);
        DUE.is("act(1, 0)", x.act(1, 0), Due.BEYOND);
        DUE.is("act(30, 0)", x.act(30, 0), Due.BEYOND);
        DUE.is("act(0, -1)", x.act(0, -1), Due.BEYOND);
        DUE.is("act(0, 5)", x.act(0, 5), Due.BEYOND);
    }

    private static void actKindsAndPlaces() {
        ShireLines x = Due.desk();
        x.found(0, 1500, 1);
        x.move(0, 1, 1400, 1);
        x.swallow(0, 1, 1300);
        x.back(0, 1999);
        x.join(0, 3, 1000);
        int[] years = {1500, 1400, 1300, 1999, 1000};
        int[] places = {3, 2, 1, 4, 0};
        for (int act = 0; act < 5; act++) {
            DUE.is("kind of act " + act, x.act(act, 0), act);
            DUE.is("year of act " + act, x.act(act, 1), years[act]);
            DUE.is("place of act " + act, x.act(act, 4), places[act]);
        }
    }

    private static void orderOfOneYear() {
        ShireLines x = Due.desk();
        x.found(0, 1200, Due.set(0));
        x.found(1, 1200, Due.set(0));
        x.found(2, 1100, Due.set(0));
        x.found(4, 1200, Due.set(1));
        DUE.is("of one year by number: 0", x.act(0, 4), 1);
        DUE.is("of one year by number: 1", x.act(1, 4), 2);
        DUE.is("of one year by number: 3", x.act(3, 4), 3);
        DUE.is("the later number has it", x.who(0, 1200), 1);
        DUE.is("the year ahead", x.who(0, 1199), 2);
    }

    private static void lateTellingChangesOutcome() {
        ShireLines x = Due.desk();
        x.move(0, 1, 1300, Due.set(0));
        DUE.is("VOID as told", x.told(2), 1);
        x.found(1, 1200, 0);
        DUE.is("still VOID", x.act(0, 2), 1);
        x.found(0, 1100, Due.set(0, 1));
        DUE.is("VOID no more", x.act(0, 2), 0);
        DUE.is("moved", x.who(0, 1300), 1);
        DUE.is("no VOID ones", x.told(2), 0);
    }

    private static void untell() {
        ShireLines x = Due.desk();
        DUE.is("untell: NONE", x.untell(), Due.NONE);
        x.found(0, 1100, Due.set(0));
        x.found(1, 1050, Due.set(0));
        DUE.is("two are there", x.who(0, 1100), 0);
        DUE.is("untell", x.untell(), 1);
        DUE.is("the latest by number is out", x.who(0, 1050), 10);
        DUE.is("the other one stays", x.who(0, 1100), 0);
        DUE.is("its place", x.act(0, 4), 0);
        DUE.is("no such act", x.act(1, 0), Due.BEYOND);
        DUE.is("untell again", x.untell(), 0);
        DUE.is("untell: NONE again", x.untell(), Due.NONE);
        DUE.is("nobody holds", x.who(0, 1999), 10);
        DUE.is("told anew", x.move(0, 1, 1500, 1), 0);
        DUE.is("anew it is a MOVE", x.act(0, 0), 1);
        DUE.is("anew it is VOID", x.act(0, 2), 1);
    }

    private static void untellInTheMiddle() {
        ShireLines x = Due.desk();
        x.found(0, 1100, Due.set(0, 1));
        x.found(1, 1300, Due.set(1));
        x.back(1, 1400);
        x.swallow(0, 1, 1350);
        x.found(0, 1200, Due.set(2));
        DUE.is("VOID founding", x.act(4, 2), 1);
        DUE.is("untell the founding", x.untell(), 4);
        DUE.is("places close", x.act(2, 4), 3);
        DUE.is("BACK is VOID", x.act(2, 2), 1);
        DUE.is("untell the swallowing", x.untell(), 3);
        DUE.is("BACK is done again", x.act(2, 2), 0);
        DUE.is("who", x.who(1, 1400), 0);
    }

    private static void full() {
        ShireLines x = Due.desk();
        for (int act = 0; act < 30; act++) {
            DUE.is("act " + act, x.found(0, 1999 - act, 1), act);
        }
        DUE.is("thirty-first", x.found(0, 1000, 1), Due.FULL);
        DUE.is("thirty", x.told(1), 30);
        DUE.is("all but the first done are VOID", x.told(2), 29);
        DUE.is("that is the last told", x.act(29, 2), 0);
        DUE.is("untell makes room", x.untell(), 29);
        DUE.is("and another one is told", x.join(0, 3, 1999), 29);
    }

    private static void fill(ShireLines x) {
        for (int i = (int) x.told(1); i < 30; i++) {
            x.found(0, 1999, 0);
        }
    }
}
