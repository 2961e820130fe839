import java.util.Arrays;

/** A desk for the lines between shires over nine hundred years, by the promises of the document. */
public final class ShireLines {
    private static final long LOW = -1000000000000000000L;
    private static final long BEYOND = LOW - 1;
    private static final long MISSING = LOW - 2;
    private static final long SIZE = LOW - 3;
    private static final long KIND = LOW - 4;
    private static final long FULL = LOW - 5;
    private static final long NONE = LOW - 6;

    private static final int UNIT = 0;
    private static final int PARISH = 1;
    private static final int TOWN = 2;
    private static final int HUNDRED = 3;
    private static final int KINDS = 4;
    private static final int NO_KIND = -1;
    /** Of each kind, the one that it is under. */
    private static final int[] KIND_OVER = {NO_KIND, UNIT, PARISH, UNIT};

    private static final int FOUND = 0;
    private static final int MOVE = 1;
    private static final int SWALLOW = 2;
    private static final int BACK = 3;
    private static final int JOIN = 4;

    private static final int FIRST_YEAR = 1000;
    private static final int LAST_YEAR = 1999;
    private static final int MOST_UNITS = 10;
    private static final int MOST_ACTS = 30;
    private static final int MOST_COUNTS = 20;
    private static final int MOST_PEOPLE = 1000000;
    private static final int MAPS = 4;
    private static final int SHEETS = 4;
    private static final int CELLS = 36;
    private static final int NOBODY = 10;
    /** The most units, and nobody. */
    private static final int HOLDERS = 11;
    private static final int NOTHING = -1;

    private final Chronicle chronicle = new Chronicle();
    private final Tally tally = new Tally();
    private final Chart[] charts = new Chart[MAPS];
    private final Sheet[] sheets = new Sheet[SHEETS];
    private int findings;

    public ShireLines() {
        for (int i = 0; i < MAPS; i++) {
            charts[i] = new Chart();
        }
        for (int i = 0; i < SHEETS; i++) {
            sheets[i] = new Sheet();
        }
    }

    // ---- units, acts

    public long unit(int kind) {
        if (!isKind(kind)) {
            return refuse(BEYOND);
        }
        if (chronicle.hasAllUnits()) {
            return refuse(FULL);
        }
        return chronicle.addUnit(kind);
    }

    public long as(int unit, int kind) {
        if (!chronicle.hasUnit(unit) || !isKind(kind)) {
            return refuse(BEYOND);
        }
        if (!isOrUnder(chronicle.kindOf(unit), kind)) {
            return refuse(KIND);
        }
        return unit;
    }

    public long found(int unit, int year, long cells) {
        if (!chronicle.hasUnit(unit) || !isYear(year) || !Field.isSet(cells)) {
            return refuse(BEYOND);
        }
        if (chronicle.isHundred(unit)) {
            return refuse(KIND);
        }
        return counted(chronicle.tell(FOUND, unit, NOBODY, year, cells));
    }

    public long move(int from, int to, int year, long cells) {
        if (!Field.isSet(cells)) {
            return refuse(BEYOND);
        }
        long finding = pairFinding(from, to, year);
        return finding < LOW ? refuse(finding) : counted(chronicle.tell(MOVE, from, to, year, cells));
    }

    public long swallow(int unit, int by, int year) {
        long finding = pairFinding(unit, by, year);
        return finding < LOW ? refuse(finding) : counted(chronicle.tell(SWALLOW, unit, by, year, 0L));
    }

    public long back(int act, int year) {
        if (!chronicle.hasAct(act) || !isYear(year) || year < chronicle.acts[act].year) {
            return refuse(BEYOND);
        }
        if (!chronicle.acts[act].canBeTurnedBack()) {
            return refuse(KIND);
        }
        return counted(chronicle.tell(BACK, act, NOBODY, year, 0L));
    }

    public long join(int unit, int hundred, int year) {
        if (!chronicle.hasUnit(unit) || !chronicle.hasUnit(hundred) || !isYear(year)) {
            return refuse(BEYOND);
        }
        if (chronicle.isHundred(unit) || !chronicle.isHundred(hundred)) {
            return refuse(KIND);
        }
        return counted(chronicle.tell(JOIN, unit, hundred, year, 0L));
    }

    public long act(int act, int what) {
        if (!chronicle.hasAct(act)) {
            return refuse(BEYOND);
        }
        Act asked = chronicle.acts[act];
        switch (what) {
            case 0: return asked.kind;
            case 1: return asked.year;
            case 2: return oneIf(asked.isVoid);
            case 3: return Long.bitCount(asked.passed);
            case 4: return asked.place;
            default: return refuse(BEYOND);
        }
    }

    public long untell() {
        if (chronicle.told == 0) {
            return refuse(NONE);
        }
        chronicle.dropLatest();
        return chronicle.told;
    }

    // ---- at a year

    public long who(int cell, int year) {
        if (!Field.isCell(cell) || !isYear(year)) {
            return refuse(BEYOND);
        }
        return chronicle.momentAt(year).holderOf(cell);
    }

    public long there(int unit, int year) {
        if (!chronicle.hasUnit(unit) || !isYear(year)) {
            return refuse(BEYOND);
        }
        return oneIf(chronicle.isHundred(unit) || chronicle.momentAt(year).isThere(unit));
    }

    public long cells(int unit, int year) {
        if (!chronicle.hasUnit(unit) || !isYear(year)) {
            return refuse(BEYOND);
        }
        return chronicle.heldAt(unit, year);
    }

    public long shape(int unit, int year, int what) {
        if (!chronicle.hasUnit(unit) || !isYear(year)) {
            return refuse(BEYOND);
        }
        long set = chronicle.heldAt(unit, year);
        switch (what) {
            case 0: return Long.bitCount(set);
            case 1: return Field.pieces(set);
            case 2: return Field.sides(set);
            default: return refuse(BEYOND);
        }
    }

    public long under(int unit, int year) {
        if (!chronicle.hasUnit(unit) || !isYear(year)) {
            return refuse(BEYOND);
        }
        if (chronicle.isHundred(unit)) {
            return refuse(KIND);
        }
        int hundred = chronicle.momentAt(year).hundredOver(unit);
        return hundred == NOBODY ? refuse(NONE) : hundred;
    }

    public long led(int cell, int other, int year) {
        if (!Field.isCell(cell) || !Field.isCell(other) || !isYear(year)) {
            return refuse(BEYOND);
        }
        if (!Field.areBeside(cell, other)) {
            return refuse(SIZE);
        }
        int maker = chronicle.makerOfBorder(cell, other, year);
        return maker == NOTHING ? refuse(NONE) : maker;
    }

    public long borders(int year) {
        if (!isYear(year)) {
            return refuse(BEYOND);
        }
        return chronicle.momentAt(year).borderPairs();
    }

    public long changes(int unit, int year) {
        if (!chronicle.hasUnit(unit) || !isYear(year)) {
            return refuse(BEYOND);
        }
        int changed = chronicle.firstChange(unit, year);
        return changed == NOTHING ? refuse(NONE) : changed;
    }

    // ---- maps

    public long map(int map, int year) {
        if (!isMap(map) || !isYear(year)) {
            return refuse(BEYOND);
        }
        int former = charts[map].year;
        charts[map].year = year;
        return former;
    }

    public long claim(int map, int cell, int unit) {
        if (!isMap(map) || !Field.isCell(cell) || !isClaim(unit)) {
            return refuse(BEYOND);
        }
        if (chronicle.isHundred(unit)) {
            return refuse(KIND);
        }
        boolean claimed = Field.has(charts[map].claimedCells(), cell);
        charts[map].setClaim(cell, unit);
        return oneIf(claimed);
    }

    public long read(int map, int what) {
        if (!isMap(map)) {
            return refuse(BEYOND);
        }
        Chart chart = charts[map];
        switch (what) {
            case 0: return chart.year;
            case 1: return chart.size();
            case 2: return chart.agreement(chronicle.momentAt(chart.year));
            case 3: return chart.firstWrong(chronicle.momentAt(chart.year));
            default: return refuse(BEYOND);
        }
    }

    public long best(int map, int from, int to) {
        if (!isMap(map) || !isYear(from) || !isYear(to) || from > to) {
            return refuse(BEYOND);
        }
        return bestYear(charts[map], from, to);
    }

    public long quarrel(int map, int other) {
        if (!isMap(map) || !isMap(other)) {
            return refuse(BEYOND);
        }
        int cell = charts[map].firstQuarrel(charts[other]);
        return cell == CELLS ? refuse(NONE) : cell;
    }

    // ---- counts

    public long count(int unit, int year, int people) {
        if (!chronicle.hasUnit(unit) || !isYear(year) || people < 0 || people > MOST_PEOPLE) {
            return refuse(BEYOND);
        }
        if (chronicle.isHundred(unit)) {
            return refuse(KIND);
        }
        if (tally.isFull()) {
            return refuse(FULL);
        }
        return tally.add(unit, year, people);
    }

    public long carried(int year, int unit, int to, boolean below) {
        if (!chronicle.hasUnit(unit) || !isYear(year) || !isYear(to)) {
            return refuse(BEYOND);
        }
        return tally.share(year, chronicle.momentAt(year), chronicle.heldAt(unit, to), below);
    }

    public long people(int year) {
        if (!isYear(year)) {
            return refuse(BEYOND);
        }
        return tally.sum(year);
    }

    // ---- sheets

    public long sheet(int s, int bits, int n) {
        if (!isSheet(s) || bits != 0 && bits != 8 && bits != 16 && bits != 32) {
            return refuse(BEYOND);
        }
        if (n < 0) {
            return refuse(SIZE);
        }
        if (n > CELLS) {
            return refuse(BEYOND);
        }
        return sheets[s].renew(bits, n);
    }

    public long put(int s, int i, int v) {
        if (!isSheet(s)) {
            return refuse(BEYOND);
        }
        Sheet sheet = sheets[s];
        if (sheet.isMissing()) {
            return refuse(MISSING);
        }
        if (!sheet.hasRun(i, 1)) {
            return refuse(BEYOND);
        }
        sheet.numbers[i] = sheet.lowestBits(v);
        return 0;
    }

    public long copy(int s, int from, int t, int to, int n) {
        if (!isSheet(s) || !isSheet(t)) {
            return refuse(BEYOND);
        }
        Sheet source = sheets[s];
        Sheet target = sheets[t];
        if (source.isMissing() || target.isMissing()) {
            return refuse(MISSING);
        }
        if (source.bits != target.bits) {
            return refuse(KIND);
        }
        if (!source.hasRun(from, n) || !target.hasRun(to, n)) {
            return refuse(BEYOND);
        }
        System.arraycopy(source.numbers, from, target.numbers, to, n);
        return n;
    }

    public long lay(int map, int s) {
        if (!isMap(map) || !isSheet(s)) {
            return refuse(BEYOND);
        }
        Sheet sheet = sheets[s];
        if (sheet.isMissing()) {
            return refuse(MISSING);
        }
        for (int cell = 0; cell < CELLS; cell++) {
            charts[map].setClaim(cell, cell < sheet.size ? claimOf(sheet.numbers[cell]) : NOTHING);
        }
        return charts[map].size();
    }

    public long told(int what) {
        switch (what) {
            case 0: return chronicle.units;
            case 1: return chronicle.told;
            case 2: return chronicle.voidActs();
            case 3: return tally.size;
            case 4: return findings;
            default: return refuse(BEYOND);
        }
    }

    // ---- what the acts above share

    private long refuse(long finding) {
        findings++;
        return finding;
    }

    private long counted(long answer) {
        return answer < LOW ? refuse(answer) : answer;
    }

    /** What two units that pass cells on in a year are refused for, or 0. */
    private long pairFinding(int from, int to, int year) {
        if (!chronicle.hasUnit(from) || !chronicle.hasUnit(to) || !isYear(year)) {
            return BEYOND;
        }
        if (chronicle.isHundred(from) || chronicle.isHundred(to)) {
            return KIND;
        }
        return from == to ? SIZE : 0;
    }

    /** Between two acts nothing changes, so only the first year and the years of acts can be the first best one. */
    private int bestYear(Chart chart, int from, int to) {
        int best = from;
        int most = chart.agreement(chronicle.momentAt(from));
        for (int place = 0; place < chronicle.told; place++) {
            int year = chronicle.actAt(place).year;
            if (year > from && year <= to) {
                int agreed = chart.agreement(chronicle.momentAt(year));
                if (agreed > most) {
                    best = year;
                    most = agreed;
                }
            }
        }
        return best;
    }

    private boolean isClaim(int unit) {
        return unit == NOTHING || unit == NOBODY || chronicle.hasUnit(unit);
    }

    private int claimOf(int number) {
        return isClaim(number) && !chronicle.isHundred(number) ? number : NOTHING;
    }

    private static boolean isOrUnder(int kind, int wanted) {
        int at = kind;
        for (int step = 0; step < KINDS; step++) {
            if (at == wanted) {
                return true;
            }
            if (!isKind(at)) {
                return false;
            }
            at = KIND_OVER[at];
        }
        return false;
    }

    private static boolean isKind(int kind) {
        return kind >= 0 && kind < KINDS;
    }

    private static boolean isYear(int year) {
        return year >= FIRST_YEAR && year <= LAST_YEAR;
    }

    private static boolean isMap(int map) {
        return map >= 0 && map < MAPS;
    }

    private static boolean isSheet(int s) {
        return s >= 0 && s < SHEETS;
    }

    private static long oneIf(boolean holds) {
        return holds ? 1 : 0;
    }

    /** Sets of cells as bits: cell k is bit k, so a step along a row is a shift by 1 and along a column by 6. */
    private static final class Field {
        private static final int ROW = 6;
        private static final int PAIRS_BESIDE = 60;
        private static final long ALL = (1L << CELLS) - 1;
        private static final long FIRST_COLUMN = 0x41041041L;

        static boolean isCell(int cell) {
            return cell >= 0 && cell < CELLS;
        }

        static boolean isSet(long cells) {
            return (cells & ~ALL) == 0;
        }

        static boolean has(long set, int cell) {
            return (set >>> cell & 1) == 1;
        }

        static boolean areBeside(int cell, int other) {
            int gap = Math.abs(cell - other);
            return gap == ROW || gap == 1 && cell / ROW == other / ROW;
        }

        /** The cells that lie one step right of a set. The shift wraps into the next row, which is masked out. */
        static long right(long set) {
            return set << 1 & ALL & ~FIRST_COLUMN;
        }

        static long left(long set) {
            return (set & ~FIRST_COLUMN) >>> 1;
        }

        static long down(long set) {
            return set << ROW & ALL;
        }

        static long up(long set) {
            return set >>> ROW;
        }

        static int pairsWithin(long set) {
            return Long.bitCount(set & right(set)) + Long.bitCount(set & down(set));
        }

        /** Each cell has four sides, and each pair within the set hides two of them. */
        static int sides(long set) {
            return 4 * Long.bitCount(set) - 2 * pairsWithin(set);
        }

        /** The first cell of a set, or 36 if it has none. */
        static int firstOf(long set) {
            for (int cell = 0; cell < CELLS; cell++) {
                if (has(set, cell)) {
                    return cell;
                }
            }
            return CELLS;
        }

        static int pieces(long set) {
            int heaps = 0;
            long rest = set;
            for (int cell = 0; cell < CELLS; cell++) {
                if (has(rest, cell)) {
                    heaps++;
                    rest &= ~heapFrom(cell, rest);
                }
            }
            return heaps;
        }

        private static long heapFrom(int cell, long set) {
            long heap = 1L << cell & set;
            long former = 0;
            for (int step = 0; step < CELLS && heap != former; step++) {
                former = heap;
                heap |= (right(heap) | left(heap) | down(heap) | up(heap)) & set;
            }
            return heap;
        }
    }

    /** An act as told, and what came of it when all acts were last done. */
    private static final class Act {
        private int kind;
        private int year;
        /** The unit, of a BACK the act that is turned back. */
        private int first;
        /** The other unit or the HUNDRED, if the act has one. */
        private int second;
        private long cells;
        private int place;
        private boolean isVoid;
        private long passed;

        boolean canBeTurnedBack() {
            return kind == FOUND || kind == MOVE || kind == SWALLOW;
        }

        int receiver() {
            return kind == FOUND ? first : second;
        }
    }

    /** What stands when so many acts are done. A holder that is no unit's number is nobody. */
    private static final class Moment {
        private final long[] held = new long[MOST_UNITS];
        private final int[] hundreds = new int[MOST_UNITS];
        private int present;

        Moment() {
            Arrays.fill(hundreds, NOBODY);
        }

        void becomeLike(Moment other) {
            System.arraycopy(other.held, 0, held, 0, MOST_UNITS);
            System.arraycopy(other.hundreds, 0, hundreds, 0, MOST_UNITS);
            present = other.present;
        }

        boolean isThere(int unit) {
            return isSlot(unit) && (present >>> unit & 1) == 1;
        }

        void arrive(int unit) {
            if (isSlot(unit)) {
                present |= 1 << unit;
            }
        }

        void leave(int unit) {
            if (isSlot(unit)) {
                present &= ~(1 << unit);
                hundreds[unit] = NOBODY;
            }
        }

        void putUnder(int unit, int hundred) {
            if (isSlot(unit)) {
                hundreds[unit] = hundred;
            }
        }

        int hundredOver(int unit) {
            return isSlot(unit) ? hundreds[unit] : NOBODY;
        }

        void give(long set, int holder) {
            for (int unit = 0; unit < MOST_UNITS; unit++) {
                held[unit] &= ~set;
            }
            if (isSlot(holder)) {
                held[holder] |= set;
            }
        }

        long heldBy(int holder) {
            if (isSlot(holder)) {
                return held[holder];
            }
            long free = Field.ALL;
            for (int unit = 0; unit < MOST_UNITS; unit++) {
                free &= ~held[unit];
            }
            return free;
        }

        long heldUnder(int hundred) {
            long set = 0;
            for (int unit = 0; unit < MOST_UNITS; unit++) {
                if (hundreds[unit] == hundred) {
                    set |= held[unit];
                }
            }
            return set;
        }

        int holderOf(int cell) {
            for (int unit = 0; unit < MOST_UNITS; unit++) {
                if (Field.has(held[unit], cell)) {
                    return unit;
                }
            }
            return NOBODY;
        }

        boolean hasBorder(int cell, int other) {
            return holderOf(cell) != holderOf(other);
        }

        int borderPairs() {
            int alike = 0;
            for (int holder = 0; holder < HOLDERS; holder++) {
                alike += Field.pairsWithin(heldBy(holder));
            }
            return Field.PAIRS_BESIDE - alike;
        }

        private static boolean isSlot(int unit) {
            return unit >= 0 && unit < MOST_UNITS;
        }
    }

    /** The units, the acts as told, and one moment behind each act in the order in which they are done. */
    private static final class Chronicle {
        private final int[] kinds = new int[MOST_UNITS];
        private final Act[] acts = new Act[MOST_ACTS];
        private final int[] order = new int[MOST_ACTS];
        private final Moment[] moments = new Moment[MOST_ACTS + 1];
        private int units;
        private int told;

        Chronicle() {
            for (int i = 0; i < MOST_ACTS; i++) {
                acts[i] = new Act();
            }
            for (int i = 0; i <= MOST_ACTS; i++) {
                moments[i] = new Moment();
            }
        }

        boolean hasUnit(int unit) {
            return unit >= 0 && unit < units;
        }

        boolean hasAllUnits() {
            return units >= MOST_UNITS;
        }

        int addUnit(int kind) {
            if (!hasAllUnits()) {
                kinds[units] = kind;
                units++;
            }
            return units - 1;
        }

        int kindOf(int unit) {
            return hasUnit(unit) ? kinds[unit] : NO_KIND;
        }

        boolean isHundred(int unit) {
            return kindOf(unit) == HUNDRED;
        }

        boolean hasAct(int act) {
            return act >= 0 && act < told;
        }

        boolean hasAllActs() {
            return told >= MOST_ACTS;
        }

        /** The new act's number, or FULL. */
        long tell(int kind, int first, int second, int year, long cells) {
            if (hasAllActs()) {
                return FULL;
            }
            int number = told;
            Act act = acts[number];
            act.kind = kind;
            act.first = first;
            act.second = second;
            act.year = year;
            act.cells = cells;
            int place = doneUpTo(year);
            System.arraycopy(order, place, order, place + 1, told - place);
            order[place] = number;
            told++;
            redoFrom(place);
            return number;
        }

        void dropLatest() {
            if (told > 0) {
                told--;
                int place = doneUpTo(acts[told].year);
                System.arraycopy(order, place + 1, order, place, told - place);
                redoFrom(place);
            }
        }

        /** A BACK comes behind its act in the order, so what stands ahead of a place never hangs on what is behind. */
        private void redoFrom(int place) {
            for (int at = place; at < told; at++) {
                Act act = actAt(at);
                Moment now = momentBehind(at + 1);
                now.becomeLike(momentBehind(at));
                act.place = at;
                act.passed = 0;
                act.isVoid = !perform(act, now);
            }
        }

        /** Whether the act could be done; if not, it is VOID and the moment is as it was. */
        private boolean perform(Act act, Moment now) {
            switch (act.kind) {
                case FOUND: return performFound(act, now);
                case MOVE: return performMove(act, now);
                case SWALLOW: return performSwallow(act, now);
                case BACK: return performBack(act, now);
                default: return performJoin(act, now);
            }
        }

        private static boolean performFound(Act act, Moment now) {
            if (now.isThere(act.first)) {
                return false;
            }
            now.arrive(act.first);
            act.passed = act.cells & ~now.heldBy(act.first);
            now.give(act.passed, act.first);
            return true;
        }

        private static boolean performMove(Act act, Moment now) {
            long passing = act.cells & now.heldBy(act.first);
            if (!now.isThere(act.first) || !now.isThere(act.second) || passing == 0) {
                return false;
            }
            act.passed = passing;
            now.give(passing, act.second);
            return true;
        }

        private boolean performSwallow(Act act, Moment now) {
            if (!now.isThere(act.first) || !now.isThere(act.second) || kindOf(act.first) == TOWN) {
                return false;
            }
            act.passed = now.heldBy(act.first);
            now.give(act.passed, act.second);
            now.leave(act.first);
            return true;
        }

        private boolean performBack(Act act, Moment now) {
            if (!hasAct(act.first)) {
                return false;
            }
            Act turned = acts[act.first];
            Moment ahead = momentBehind(turned.place);
            long unmoved = turned.passed & now.heldBy(turned.receiver());
            for (int holder = 0; holder < HOLDERS; holder++) {
                long returned = unmoved & ahead.heldBy(holder);
                if (returned != 0 && (holder == NOBODY || now.isThere(holder))) {
                    act.passed |= returned;
                    now.give(returned, holder);
                }
            }
            return act.passed != 0;
        }

        private static boolean performJoin(Act act, Moment now) {
            if (!now.isThere(act.first)) {
                return false;
            }
            now.putUnder(act.first, act.second);
            return true;
        }

        private int doneUpTo(int year) {
            int done = 0;
            for (int act = 0; act < told; act++) {
                if (acts[act].year <= year) {
                    done++;
                }
            }
            return done;
        }

        Moment momentAt(int year) {
            return momentBehind(doneUpTo(year));
        }

        /** What stands when so many acts are done. The number is tested here, so that no caller need prove it. */
        private Moment momentBehind(int done) {
            return moments[done >= 0 && done <= MOST_ACTS ? done : 0];
        }

        Act actAt(int place) {
            int number = hasAct(place) ? order[place] : 0;
            return acts[hasAct(number) ? number : 0];
        }

        long heldAt(int unit, int year) {
            Moment moment = momentAt(year);
            return isHundred(unit) ? moment.heldUnder(unit) : moment.heldBy(unit);
        }

        int makerOfBorder(int cell, int other, int year) {
            int done = doneUpTo(year);
            if (!momentBehind(done).hasBorder(cell, other)) {
                return NOTHING;
            }
            for (int place = done - 1; place >= 0; place--) {
                if (!momentBehind(place).hasBorder(cell, other)) {
                    return order[place];
                }
            }
            return NOTHING;
        }

        int firstChange(int unit, int year) {
            for (int place = 0; place < told; place++) {
                int at = actAt(place).year;
                if (at >= year && heldAt(unit, at) != heldAt(unit, at - 1)) {
                    return at;
                }
            }
            return NOTHING;
        }

        int voidActs() {
            int voids = 0;
            for (int act = 0; act < told; act++) {
                if (acts[act].isVoid) {
                    voids++;
                }
            }
            return voids;
        }
    }

    /** A MAP: of each holder, nobody too, the set of cells that it is claimed to hold. */
    private static final class Chart {
        private final long[] claimed = new long[HOLDERS];
        private int year = FIRST_YEAR;

        void setClaim(int cell, int holder) {
            long bit = 1L << cell;
            for (int other = 0; other < HOLDERS; other++) {
                claimed[other] &= ~bit;
            }
            if (holder >= 0 && holder < HOLDERS) {
                claimed[holder] |= bit;
            }
        }

        long claimedCells() {
            long set = 0;
            for (int holder = 0; holder < HOLDERS; holder++) {
                set |= claimed[holder];
            }
            return set;
        }

        int size() {
            return Long.bitCount(claimedCells());
        }

        private long rightCells(Moment moment) {
            long right = 0;
            for (int holder = 0; holder < HOLDERS; holder++) {
                right |= claimed[holder] & moment.heldBy(holder);
            }
            return right;
        }

        int agreement(Moment moment) {
            return Long.bitCount(rightCells(moment));
        }

        int firstWrong(Moment moment) {
            return Field.firstOf(claimedCells() & ~rightCells(moment));
        }

        int firstQuarrel(Chart other) {
            long alike = 0;
            for (int holder = 0; holder < HOLDERS; holder++) {
                alike |= claimed[holder] & other.claimed[holder];
            }
            return Field.firstOf(claimedCells() & other.claimedCells() & ~alike);
        }
    }

    /** The COUNTS, as told. */
    private static final class Tally {
        private final int[] units = new int[MOST_COUNTS];
        private final int[] years = new int[MOST_COUNTS];
        private final int[] heads = new int[MOST_COUNTS];
        private int size;

        boolean isFull() {
            return size >= MOST_COUNTS;
        }

        int add(int unit, int year, int number) {
            if (!isFull()) {
                units[size] = unit;
                years[size] = year;
                heads[size] = number;
                size++;
            }
            return size;
        }

        /** Whether a COUNT is of the year, and no later one of its unit and year was told. */
        private boolean standsFor(int index, int year) {
            if (years[index] != year) {
                return false;
            }
            for (int later = index + 1; later < size; later++) {
                if (years[later] == year && units[later] == units[index]) {
                    return false;
                }
            }
            return true;
        }

        long sum(int year) {
            long sum = 0;
            for (int i = 0; i < size; i++) {
                if (standsFor(i, year)) {
                    sum += heads[i];
                }
            }
            return sum;
        }

        /** Units share no cell, so the areas sum to at most 36 and no product comes near a long's end. */
        long share(int year, Moment then, long target, boolean below) {
            long above = 0;
            long line = 1;
            for (int i = 0; i < size; i++) {
                long source = then.heldBy(units[i]);
                if (source != 0 && standsFor(i, year)) {
                    long area = Long.bitCount(source);
                    above = above * area + heads[i] * line * Long.bitCount(source & target);
                    line *= area;
                    long common = greatestDivisor(above, line);
                    if (common > 1) {
                        above /= common;
                        line /= common;
                    }
                }
            }
            return below ? line : above;
        }

        private static long greatestDivisor(long a, long b) {
            long high = a;
            long low = b;
            for (int step = 0; step < 100 && low != 0; step++) {
                long rest = high % low;
                high = low;
                low = rest;
            }
            return high;
        }
    }

    /** A row of numbers; of 0 bits it is MISSING. */
    private static final class Sheet {
        private final int[] numbers = new int[CELLS];
        private int bits;
        private int size;

        int renew(int newBits, int newSize) {
            bits = newBits;
            size = newBits == 0 ? 0 : newSize;
            Arrays.fill(numbers, 0);
            return size;
        }

        boolean isMissing() {
            return bits == 0;
        }

        boolean hasRun(int from, int n) {
            return from >= 0 && n >= 0 && n <= size && from <= size - n;
        }

        int lowestBits(int v) {
            return bits == 32 ? v : v & ((1 << bits) - 1);
        }
    }
}
