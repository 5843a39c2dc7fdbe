/** A mountain village with one coat: who wears it may go out. README.md says how it is used. */
public final class CoatBetween {
    public static final int BAD = -1, FULL = -2, FINDING = -3, STATE = -4, SPENT = -6, NONE = -9;

    private static final int NOTHING = 1, BEYOND = 2, UNLIKE = 3, NOUGHT = 4, SIZE = 5;
    private static final int ROWS = 6, ROW_MOST = 60, TEXTS = 4, TEXT_MOST = 120;
    private static final int HOUSES = 8, NEEDS = 8, SETS = 256, WATCHES = 28;
    private static final int DEALS = 16, THINGS = 12, TRACKS = 12, MENDINGS = 8;
    private static final int MUST = 1, LOT = 2, WEDDING = 3, FIRE = 4, FEAST = 5;
    private static final int SAVED = 0, LENT = 1, SOLD = 2, STOLEN = 3, GIVEN_BACK = 4;
    private static final int CERTAIN = 12, HOURS_MOST = 9999;
    private static final char[] NEED_LETTERS = {'n', 'm', 'l', 'w', 'f', 't'};
    private static final char[] RULE_LETTERS = {'v', 'b', 'n', 'c', 'm'};

    private final Row[] rows = new Row[ROWS];
    private final Row[] texts = new Row[TEXTS];
    private final Lane lane = new Lane();
    private final Lane draft = new Lane();
    private final Reader reader = new Reader();
    private final Jobs jobs = new Jobs();
    private final Way way = new Way(jobs);
    private final Planner planner = new Planner(jobs);
    private final Chooser chooser = new Chooser(lane, way);
    private final Ledger ledger = new Ledger();
    private final Pairs things = new Pairs(THINGS);
    private final Pairs tracks = new Pairs(TRACKS);
    private final int[] findingCounts = new int[SIZE + 1];
    /** Made by the first call that wants it, as it is large. */
    private Tally tally = null;
    private int lastFinding = 0;
    private int told = 0;
    private long over = 0;
    private long under = 1;

    public CoatBetween() {
        for (int r = 0; r < ROWS; r++) {
            rows[r] = new Row(ROW_MOST);
        }
        for (int t = 0; t < TEXTS; t++) {
            texts[t] = new Row(TEXT_MOST);
        }
    }

    // ---- 1 rows, texts, villages

    public int row(int r, int n) {
        Row row = rowOf(r);
        if (row == null || n > ROW_MOST) {
            return BAD;
        }
        if (n < 0) {
            return found(SIZE);
        }
        row.make(n, 0);
        return n;
    }

    public int lay(int r, int i, int v) {
        Row row = rowOf(r);
        if (row == null) {
            return BAD;
        }
        if (row.isMissing()) {
            return found(NOTHING);
        }
        if (!row.has(i)) {
            return found(BEYOND);
        }
        told = row.cell(i);
        row.set(i, v);
        return 1;
    }

    public int at(int r, int i) {
        Row row = rowOf(r);
        if (row == null) {
            return BAD;
        }
        if (row.isMissing()) {
            return found(NOTHING);
        }
        if (!row.has(i)) {
            return found(BEYOND);
        }
        told = row.cell(i);
        return 1;
    }

    public int tear(int r) {
        Row row = rowOf(r);
        if (row == null) {
            return BAD;
        }
        if (row.isMissing()) {
            return found(NOTHING);
        }
        row.lose();
        return 1;
    }

    public int copy(int r, int i, int to, int j, int n) {
        Row source = rowOf(r);
        Row goal = rowOf(to);
        if (source == null || goal == null) {
            return BAD;
        }
        if (n < 0) {
            return found(SIZE);
        }
        if (source.isMissing() || goal.isMissing()) {
            return found(NOTHING);
        }
        if (!source.hasPart(i, n) || !goal.hasPart(j, n)) {
            return found(BEYOND);
        }
        goal.takePart(j, source, i, n);
        return 1;
    }

    public int mean(int r) {
        Row row = rowOf(r);
        if (row == null) {
            return BAD;
        }
        if (row.isMissing()) {
            return found(NOTHING);
        }
        int size = row.length();
        if (size <= 0) {
            return found(NOUGHT);
        }
        told = (int) (row.sum() / size);
        return 1;
    }

    public int text(int t, int n) {
        Row text = textOf(t);
        if (text == null || n > TEXT_MOST) {
            return BAD;
        }
        if (n < 0) {
            return found(SIZE);
        }
        text.make(n, ' ');
        return n;
    }

    public int put(int t, int i, int v) {
        Row text = textOf(t);
        if (text == null) {
            return BAD;
        }
        if (text.isMissing()) {
            return found(NOTHING);
        }
        if (!text.has(i)) {
            return found(BEYOND);
        }
        int before = text.cell(i);
        text.set(i, (byte) v);
        return before + 1000;
    }

    public int fault(int t) {
        Row text = textOf(t);
        if (text == null) {
            return BAD;
        }
        if (text.isMissing()) {
            return found(NOTHING);
        }
        return reader.read(text, draft);
    }

    public int village(int t) {
        Row text = textOf(t);
        if (text == null) {
            return BAD;
        }
        if (text.isMissing()) {
            return found(NOTHING);
        }
        // A faulty text must leave the village as it is, so it is tried on the draft first.
        if (reader.read(text, draft) != NONE) {
            return STATE;
        }
        reader.read(text, lane);
        ledger.clear();
        things.cutTo(0);
        tracks.cutTo(0);
        return lane.houses;
    }

    public int house(int h) {
        if (!lane.isHouse(h)) {
            return BAD;
        }
        told = ledger.hoursOf(h);
        return lane.placeOf(h);
    }

    public int need(int i, int what) {
        if (!lane.isNeed(i) || what < 0 || what > 5) {
            return BAD;
        }
        told = lane.needOf(i).tell(what);
        return 1;
    }

    public int mark(int i, int kind) {
        if (!lane.isNeed(i) || kind < MUST || kind > FEAST) {
            return BAD;
        }
        Need need = lane.needOf(i);
        if (!need.isA(kind)) {
            return found(UNLIKE);
        }
        return need.markOf(kind);
    }

    public int start(int h) {
        if (!lane.isHouse(h)) {
            return BAD;
        }
        int before = lane.startHouse;
        lane.startHouse = h;
        return before;
    }

    public int carry(int h, int k) {
        if (!lane.isHouse(h) || !lane.isHouse(k)) {
            return BAD;
        }
        return lane.carryBetween(h, k);
    }

    public int chance(int i, int p) {
        if (!lane.isNeed(i) || p < 0 || p > CERTAIN) {
            return BAD;
        }
        Need need = lane.needOf(i);
        if (!need.isA(LOT)) {
            return found(UNLIKE);
        }
        int before = need.chance;
        need.chance = p;
        return before;
    }

    // ---- 2 orders, plans

    public int order(int r) {
        Row row = rowOf(r);
        if (row == null) {
            return BAD;
        }
        int wrong = wrongInOrder(row);
        if (wrong != 0) {
            return found(wrong);
        }
        goAlong(row);
        told = way.free;
        return way.size;
    }

    public int begins(int r, int i) {
        Row row = rowOf(r);
        if (row == null || i < 0 || i >= NEEDS) {
            return BAD;
        }
        int wrong = wrongInOrder(row);
        if (wrong != 0) {
            return found(wrong);
        }
        if (!row.has(i)) {
            return found(BEYOND);
        }
        goAlong(row);
        return way.beginningOf(i);
    }

    public int can(int set) {
        if (!lane.isSet(set)) {
            return BAD;
        }
        reachFromStart(set);
        return planner.endOf(set);
    }

    public int sets() {
        reachFromStart(lane.allNeeds());
        int number = 0;
        int most = 0;
        for (int set = 0; set <= lane.allNeeds(); set++) {
            if (planner.endOf(set) != NONE) {
                number++;
                most = Math.max(most, jobs.worthOf(set));
            }
        }
        told = most;
        return number;
    }

    public int best() {
        reachFromStart(lane.allNeeds());
        int plan = planner.bestPlan(lane.allNeeds(), lane.mustBits());
        if (plan == NONE) {
            return NONE;
        }
        told = jobs.worthOf(plan);
        return plan;
    }

    public int first(int set, int r) {
        Row row = rowOf(r);
        if (row == null || !lane.isSet(set)) {
            return BAD;
        }
        if (!goFirstOrder(set)) {
            return NONE;
        }
        tellWay(row);
        return 1;
    }

    public int orders(int set) {
        if (!lane.isSet(set)) {
            return BAD;
        }
        if (tally == null) {
            tally = new Tally(jobs);
        }
        jobs.load(lane);
        return tally.numberOfOrders(set, lane.startPlace());
    }

    public int costs(int i) {
        if (!lane.isNeed(i)) {
            return BAD;
        }
        reachFromStart(lane.allNeeds());
        int plan = planner.bestPlan(lane.allNeeds(), lane.mustBits());
        int without = planner.bestPlan(lane.allNeeds() & ~bit(i), lane.mustBits() & ~bit(i));
        if (plan == NONE || without == NONE) {
            return NONE;
        }
        return jobs.worthOf(without) - jobs.worthOf(plan & ~bit(i));
    }

    public int worn(int set) {
        if (!lane.isSet(set)) {
            return BAD;
        }
        return goFirstOrder(set) ? way.watchesWorn() : NONE;
    }

    // ---- 3 rules, second coats, two in it, mendings

    public int rule(int t, int r) {
        Row text = textOf(t);
        Row row = rowOf(r);
        if (text == null || row == null) {
            return BAD;
        }
        if (text.isMissing()) {
            return found(NOTHING);
        }
        if (!chooser.takeRule(text)) {
            return STATE;
        }
        jobs.load(lane);
        chooser.go();
        tellWay(row);
        return way.worth();
    }

    public int wise() {
        jobs.load(lane);
        int letters = RULE_LETTERS.length;
        int wisest = 0;
        int most = NONE;
        // Numbers below 5 are rules of one letter, the others of two: 5 + 5 * first + second.
        for (int number = 0; number < letters + letters * letters; number++) {
            if (chooser.takeNumber(number)) {
                chooser.go();
                if (way.worth() > most) {
                    most = way.worth();
                    wisest = number;
                }
            }
        }
        told = most;
        return wisest;
    }

    public int second(int h) {
        if (!lane.isHouse(h)) {
            return BAD;
        }
        int all = lane.allNeeds();
        jobs.load(lane);
        planner.reach(all, lane.placeOf(h), 0);
        planner.setAside();
        planner.reach(all, lane.startPlace(), 0);
        int most = planner.mostByTwo(all, lane.mustBits());
        if (most == NONE) {
            return NONE;
        }
        int plan = planner.bestPlan(all, lane.mustBits());
        told = plan == NONE ? most : most - jobs.worthOf(plan);
        return most;
    }

    public int two(int i, int j) {
        if (!lane.isNeed(i) || !lane.isNeed(j) || i == j) {
            return BAD;
        }
        int lesser = Math.min(i, j);
        int greater = Math.max(i, j);
        Need one = lane.needOf(lesser);
        Need other = lane.needOf(greater);
        if (one.length != other.length || lane.carryBetween(one.house, other.house) != 0) {
            return NONE;
        }
        jobs.load(lane);
        jobs.join(lesser, one, other);
        int due = lane.mustBits();
        if ((due & bit(greater)) != 0) {
            due = due & ~bit(greater) | bit(lesser);
        }
        int allowed = lane.allNeeds() & ~bit(greater);
        planner.reach(allowed, lane.startPlace(), 0);
        int plan = planner.bestPlan(allowed, due);
        return plan == NONE ? NONE : jobs.worthOf(plan);
    }

    public int mends(int set, int h) {
        if (!lane.isSet(set) || !lane.isHouse(h)) {
            return BAD;
        }
        jobs.load(lane);
        return planner.mostMendings(set, lane.startPlace(), lane.placeOf(h));
    }

    // ---- 4 chances

    public int odds() {
        int lots = lane.lotBits();
        int due = lane.mustBits();
        reachFromStart(lots | due);
        long ways = 0;
        for (int called = 0; called <= lots; called++) {
            if ((called & ~lots) == 0 && planner.endOf(called | due) != NONE) {
                ways += lane.waysToCall(called);
            }
        }
        tellFraction(ways, lane.waysInAll());
        return 1;
    }

    public int call(int seed) {
        if (seed < 1 || seed > 2147483646) {
            return BAD;
        }
        int called = lane.lotsCalledBy(seed);
        int allowed = lane.allNeeds() & ~lane.lotBits() | called;
        reachFromStart(allowed);
        int plan = planner.bestPlan(allowed, lane.mustBits());
        told = plan == NONE ? NONE : jobs.worthOf(plan);
        return called;
    }

    public int keep(int r) {
        Row row = rowOf(r);
        if (row == null) {
            return BAD;
        }
        if (row.isMissing()) {
            return found(NOTHING);
        }
        if (row.length() != lane.houses) {
            return found(SIZE);
        }
        if (!row.isWithin(0, 99)) {
            return found(UNLIKE);
        }
        if (row.sum() == 0) {
            return found(NOUGHT);
        }
        int nearest = 0;
        for (int h = 1; h < lane.houses; h++) {
            if (carryByParts(h, row) < carryByParts(nearest, row)) {
                nearest = h;
            }
        }
        tellFraction(carryByParts(nearest, row), row.sum());
        return nearest;
    }

    // ---- 5 hours, a pocket, tracks

    public int deal(int kind, int h, int k, int n) {
        if (kind < SAVED || kind > GIVEN_BACK || !lane.isHouse(h) || n < 1 || n > 99) {
            return BAD;
        }
        int other = kind == SAVED ? h : k;
        if (kind != SAVED && (!lane.isHouse(other) || other == h)) {
            return BAD;
        }
        if (!ledger.allows(kind, h, other, n)) {
            return STATE;
        }
        if (ledger.isFull()) {
            return FULL;
        }
        return ledger.enter(kind, h, other, n);
    }

    public int undo(int n) {
        if (n < 0 || n > ledger.deals) {
            return BAD;
        }
        return ledger.undoFrom(n);
    }

    public int owes(int h, int k) {
        if (!lane.isHouse(h) || !lane.isHouse(k) || h == k) {
            return BAD;
        }
        return ledger.owedBy(h, k);
    }

    public int rich() {
        if (lane.houses == 0) {
            return STATE;
        }
        int richest = 0;
        for (int h = 1; h < lane.houses; h++) {
            if (ledger.owedInAllTo(h) > ledger.owedInAllTo(richest)) {
                richest = h;
            }
        }
        told = ledger.owedInAllTo(richest);
        return richest;
    }

    public int pocket(int h, int thing) {
        if (!lane.isHouse(h) || thing < 0 || thing > 99) {
            return BAD;
        }
        if (things.isFull()) {
            return FULL;
        }
        things.add(h, thing);
        return things.size;
    }

    public int find(int h) {
        if (!lane.isHouse(h)) {
            return BAD;
        }
        int place = things.lastOf(h);
        if (place == NONE) {
            return found(NOTHING);
        }
        told = things.valueOf(place);
        things.takeOut(place);
        return things.size - place;
    }

    public int track(int h, int watch) {
        if (!lane.isHouse(h) || !isWatch(watch)) {
            return BAD;
        }
        if (tracks.isFull()) {
            return FULL;
        }
        tracks.add(h, watch);
        return tracks.size - 1;
    }

    public int forget(int n) {
        if (n < 0 || n > tracks.size) {
            return BAD;
        }
        int forgotten = tracks.size - n;
        tracks.cutTo(n);
        return forgotten;
    }

    public int could(int watch) {
        if (!isWatch(watch)) {
            return BAD;
        }
        int bits = 0;
        for (int h = 0; h < lane.houses; h++) {
            if (agreesWithTracks(h, watch, tracks.size)) {
                bits |= bit(h);
            }
        }
        return bits;
    }

    public int liar() {
        for (int i = 0; i < tracks.size; i++) {
            if (!agreesWithTracks(tracks.houseOf(i), tracks.valueOf(i), i)) {
                return i;
            }
        }
        return NONE;
    }

    public int image(int r) {
        Row row = rowOf(r);
        if (row == null) {
            return BAD;
        }
        if (lane.houses >= HOUSES) {
            return SPENT;
        }
        row.make(lane.houses * lane.houses, 0);
        int place = lane.houses;
        for (int h = 0; h < lane.houses; h++) {
            row.set(h, ledger.hoursOf(h));
            for (int k = 0; k < lane.houses; k++) {
                if (k != h) {
                    row.set(place, ledger.owedBy(h, k));
                    place++;
                }
            }
        }
        return row.length();
    }

    public int on(int r) {
        Row row = rowOf(r);
        if (row == null) {
            return BAD;
        }
        if (lane.houses >= HOUSES) {
            return SPENT;
        }
        if (row.isMissing()) {
            return found(NOTHING);
        }
        if (row.length() != lane.houses * lane.houses) {
            return found(SIZE);
        }
        if (!row.isWithin(0, HOURS_MOST)) {
            return found(UNLIKE);
        }
        ledger.clear();
        int place = lane.houses;
        for (int h = 0; h < lane.houses; h++) {
            ledger.setHours(h, row.cell(h));
            for (int k = 0; k < lane.houses; k++) {
                if (k != h) {
                    ledger.setOwed(h, k, row.cell(place));
                    place++;
                }
            }
        }
        return 1;
    }

    // ---- 6 what is told

    public int asked() {
        return told;
    }

    public long upper() {
        return over;
    }

    public long lower() {
        return under;
    }

    public int count(int what) {
        switch (what) {
            case 0:
                return lane.houses;
            case 1:
                return lane.needs;
            case 2:
                return Integer.bitCount(lane.mustBits());
            case 3:
                return ledger.deals;
            case 4:
                return things.size;
            case 5:
                return tracks.size;
            case 6:
                return numberThere(rows);
            case 7:
                return numberThere(texts);
            default:
                return BAD;
        }
    }

    public int finding() {
        return lastFinding;
    }

    public int findings(int f) {
        if (f < NOTHING || f > SIZE || f >= findingCounts.length) {
            return BAD;
        }
        return findingCounts[f];
    }

    public long digest() {
        long h = 17;
        for (int what = 0; what <= 7; what++) {
            h = mix(h, count(what));
        }
        h = mix(h, lane.startHouse);
        h = mixHouses(h);
        h = mixNeeds(h);
        h = mixPairs(h, things);
        h = mixPairs(h, tracks);
        h = mixRows(h, rows);
        return mixRows(h, texts);
    }

    // ---- what the calls share

    private Row rowOf(int r) {
        return r >= 0 && r < rows.length ? rows[r] : null;
    }

    private Row textOf(int t) {
        return t >= 0 && t < texts.length ? texts[t] : null;
    }

    private int found(int f) {
        lastFinding = f;
        if (f >= 0 && f < findingCounts.length) {
            findingCounts[f]++;
        }
        return FINDING;
    }

    private void tellFraction(long upperNumber, long lowerNumber) {
        long divisor = greatestDivisor(upperNumber, lowerNumber);
        if (divisor > 0) {
            over = upperNumber / divisor;
            under = lowerNumber / divisor;
        }
    }

    private static long greatestDivisor(long a, long b) {
        long greater = a;
        long lesser = b;
        // Euclid's rests halve in two steps, so 200 steps are more than any long needs.
        for (int i = 0; i < 200 && lesser != 0; i++) {
            long rest = greater % lesser;
            greater = lesser;
            lesser = rest;
        }
        return greater;
    }

    private static int bit(int i) {
        return i >= 0 && i < NEEDS ? 1 << i : 0;
    }

    private static boolean isIn(int i, int set) {
        return (set & bit(i)) != 0;
    }

    private static boolean isWatch(int watch) {
        return watch >= 0 && watch < WATCHES;
    }

    private static int watchesApart(int place, int otherPlace) {
        return (place < otherPlace ? otherPlace - place : place - otherPlace) / 4;
    }

    private int wrongInOrder(Row row) {
        if (row.isMissing()) {
            return NOTHING;
        }
        if (row.length() > lane.needs) {
            return SIZE;
        }
        int seen = 0;
        for (int i = 0; i < row.length(); i++) {
            int need = row.cell(i);
            if (!lane.isNeed(need) || isIn(need, seen)) {
                return UNLIKE;
            }
            seen |= bit(need);
        }
        return 0;
    }

    private void goAlong(Row row) {
        jobs.load(lane);
        way.beginAt(lane.startPlace());
        boolean goesOn = true;
        for (int i = 0; i < row.length() && goesOn; i++) {
            goesOn = way.meet(row.cell(i));
        }
    }

    /** Takes, again and again, the least need that leaves the others such that they can still be met. */
    private boolean goFirstOrder(int set) {
        jobs.load(lane);
        planner.reach(set, lane.startPlace(), 0);
        if (planner.endOf(set) == NONE) {
            return false;
        }
        way.beginAt(lane.startPlace());
        int rest = set;
        for (int step = 0; step < NEEDS && rest != 0; step++) {
            int before = rest;
            for (int i = 0; i < NEEDS && rest == before; i++) {
                int others = rest & ~bit(i);
                int end = others == rest ? NONE : jobs.ending(i, way.place, way.free);
                if (end != NONE) {
                    planner.reach(others, jobs.placeOf(i), end);
                }
                if (end != NONE && planner.endOf(others) != NONE && way.meet(i)) {
                    rest = others;
                }
            }
        }
        return rest == 0;
    }

    private void tellWay(Row row) {
        row.make(way.size, 0);
        for (int i = 0; i < way.size; i++) {
            row.set(i, way.needOf(i));
        }
    }

    private void reachFromStart(int within) {
        jobs.load(lane);
        planner.reach(within, lane.startPlace(), 0);
    }

    private int carryByParts(int h, Row parts) {
        int sum = 0;
        for (int k = 0; k < lane.houses; k++) {
            sum += parts.cell(k) * lane.carryBetween(h, k);
        }
        return sum;
    }

    private boolean agreesWithTracks(int h, int watch, int upTo) {
        for (int i = 0; i < upTo; i++) {
            if (!canGo(h, watch, tracks.houseOf(i), tracks.valueOf(i))) {
                return false;
            }
        }
        return tracks.hasValue(0) || canGo(h, watch, lane.startHouse, 0);
    }

    private boolean canGo(int h, int watch, int k, int otherWatch) {
        return h == k || Math.abs(watch - otherWatch) >= Math.max(1, lane.carryBetween(h, k));
    }

    private static int numberThere(Row[] list) {
        int number = 0;
        for (Row row : list) {
            if (row != null && !row.isMissing()) {
                number++;
            }
        }
        return number;
    }

    private static long mix(long h, long v) {
        return 31 * h + v;
    }

    private long mixHouses(long before) {
        long h = before;
        for (int i = 0; i < lane.houses; i++) {
            h = mix(h, lane.placeOf(i));
            h = mix(h, ledger.hoursOf(i));
            for (int k = 0; k < lane.houses; k++) {
                if (k != i) {
                    h = mix(h, ledger.owedBy(i, k));
                }
            }
        }
        return h;
    }

    private long mixNeeds(long before) {
        long h = before;
        for (int i = 0; i < lane.needs; i++) {
            Need need = lane.needOf(i);
            for (int what = 0; what <= 5; what++) {
                h = mix(h, need.tell(what));
            }
            h = mix(h, need.chance);
        }
        return h;
    }

    private static long mixPairs(long before, Pairs pairs) {
        long h = before;
        for (int i = 0; i < pairs.size; i++) {
            h = mix(h, pairs.houseOf(i));
            h = mix(h, pairs.valueOf(i));
        }
        return h;
    }

    private static long mixRows(long before, Row[] list) {
        long h = before;
        for (Row row : list) {
            if (row != null) {
                h = mix(h, row.length());
                for (int i = 0; i < row.length(); i++) {
                    h = mix(h, row.cell(i));
                }
            }
        }
        return h;
    }

    /** A ROW or a TEXT: its cells, or missing. */
    private static final class Row {
        private final int[] cells;
        private int size = -1;

        Row(int most) {
            cells = new int[Math.max(0, most)];
        }

        boolean isMissing() {
            return size < 0;
        }

        int length() {
            return size;
        }

        boolean has(int i) {
            return i >= 0 && i < size && i < cells.length;
        }

        /** Also true of no cells at its end. */
        boolean hasPart(int i, int n) {
            return i >= 0 && i <= size && n >= 0 && n <= size - i;
        }

        int cell(int i) {
            return has(i) ? cells[i] : 0;
        }

        void set(int i, int v) {
            if (has(i)) {
                cells[i] = v;
            }
        }

        void make(int n, int v) {
            if (n < 0 || n > cells.length) {
                return;
            }
            size = n;
            for (int i = 0; i < n; i++) {
                cells[i] = v;
            }
        }

        void lose() {
            size = -1;
        }

        void takePart(int j, Row source, int i, int n) {
            if (hasPart(j, n) && source.hasPart(i, n)) {
                System.arraycopy(source.cells, i, cells, j, n);
            }
        }

        long sum() {
            long sum = 0;
            for (int i = 0; i < size; i++) {
                sum += cell(i);
            }
            return sum;
        }

        boolean isWithin(int least, int most) {
            for (int i = 0; i < size; i++) {
                if (cell(i) < least || cell(i) > most) {
                    return false;
                }
            }
            return true;
        }
    }

    /** A NEED of any KIND, as the TEXT tells it, and its CHANCE. */
    private static final class Need {
        private int kind;
        private int house;
        private int from;
        private int to;
        private int length;
        private int worth;
        private int chance = CERTAIN;

        boolean isA(int asKind) {
            if (asKind == MUST) {
                return kind == MUST || kind == WEDDING || kind == FIRE;
            }
            if (asKind == LOT) {
                return kind == LOT || kind == FEAST;
            }
            return kind == asKind;
        }

        int lastWatchFrom(int begin) {
            return begin + length - 1;
        }

        /** Below from, if it can never be met. */
        int latestBeginning() {
            int latest = to - length + 1;
            if (kind == WEDDING || kind == FEAST) {
                return Math.min(latest, from);
            }
            return kind == FIRE ? Math.min(latest, from + 1) : latest;
        }

        int tell(int what) {
            switch (what) {
                case 0:
                    return kind;
                case 1:
                    return house;
                case 2:
                    return from;
                case 3:
                    return to;
                case 4:
                    return length;
                default:
                    return worth;
            }
        }

        int markOf(int asKind) {
            switch (asKind) {
                case MUST:
                    return worth;
                case LOT:
                    return chance;
                case WEDDING:
                    return lastWatchFrom(from);
                case FIRE:
                    return (lastWatchFrom(from) <= to ? 1 : 0) + (lastWatchFrom(from + 1) <= to ? 1 : 0);
                default:
                    return lastWatchFrom(from) <= to ? to - lastWatchFrom(from) : NONE;
            }
        }
    }

    /** The HOUSES of a VILLAGE, its NEEDS, and the HOUSE at which the COAT is at first. */
    private static final class Lane {
        private final int[] places = new int[HOUSES];
        private final Need[] list = new Need[NEEDS];
        private final Need nobodys = new Need();
        private int houses = 0;
        private int needs = 0;
        private int startHouse = 0;

        Lane() {
            for (int i = 0; i < NEEDS; i++) {
                list[i] = new Need();
            }
        }

        void clear() {
            houses = 0;
            needs = 0;
            startHouse = 0;
        }

        void addHouse(int place) {
            if (houses < places.length) {
                places[houses] = place;
                houses++;
            }
        }

        /** The next need, as it is to be told. */
        Need addNeed() {
            if (needs >= list.length) {
                return nobodys;
            }
            needs++;
            return needOf(needs - 1);
        }

        boolean isHouse(int h) {
            return h >= 0 && h < houses && h < places.length;
        }

        boolean isNeed(int i) {
            return i >= 0 && i < needs && i < list.length;
        }

        boolean isSet(int set) {
            return set >= 0 && set <= allNeeds();
        }

        int placeOf(int h) {
            return isHouse(h) ? places[h] : 0;
        }

        int startPlace() {
            return placeOf(startHouse);
        }

        int carryBetween(int h, int k) {
            return watchesApart(placeOf(h), placeOf(k));
        }

        Need needOf(int i) {
            Need need = isNeed(i) ? list[i] : nobodys;
            return need == null ? nobodys : need;
        }

        int allNeeds() {
            int bits = 0;
            for (int i = 0; i < needs; i++) {
                bits |= bit(i);
            }
            return bits;
        }

        int mustBits() {
            return bitsOf(MUST);
        }

        int lotBits() {
            return bitsOf(LOT);
        }

        private int bitsOf(int kind) {
            int bits = 0;
            for (int i = 0; i < needs; i++) {
                if (needOf(i).isA(kind)) {
                    bits |= bit(i);
                }
            }
            return bits;
        }

        /** In how many of all ways, twelve for each lot, just these lots are called. */
        long waysToCall(int called) {
            long ways = 1;
            for (int i = 0; i < needs; i++) {
                Need need = needOf(i);
                if (need.isA(LOT)) {
                    ways *= isIn(i, called) ? need.chance : CERTAIN - need.chance;
                }
            }
            return ways;
        }

        long waysInAll() {
            long ways = 1;
            for (int i = 0; i < needs; i++) {
                if (needOf(i).isA(LOT)) {
                    ways *= CERTAIN;
                }
            }
            return ways;
        }

        int lotsCalledBy(int seed) {
            int called = 0;
            long number = seed;
            for (int i = 0; i < needs; i++) {
                number = number * 48271 % 2147483647L;
                if (needOf(i).isA(LOT) && number % CERTAIN < needOf(i).chance) {
                    called |= bit(i);
                }
            }
            return called;
        }
    }

    /** Reads a TEXT into a lane, up to the first place at which it can't go on. */
    private static final class Reader {
        private int place = 0;
        private int faultPlace = NONE;

        /** The FAULT, or NONE. */
        int read(Row text, Lane lane) {
            place = 0;
            faultPlace = NONE;
            lane.clear();
            for (int i = 0; i <= TEXT_MOST && faultPlace == NONE && place < text.length(); i++) {
                if (text.cell(place) == ' ') {
                    place++;
                } else if (text.cell(place) == 'h') {
                    readHouse(text, lane);
                } else {
                    readNeed(text, lane);
                }
            }
            return faultPlace;
        }

        private void readHouse(Row text, Lane lane) {
            if (lane.houses >= HOUSES) {
                stop();
                return;
            }
            place++;
            int housePlace = readNumber(text, 15);
            if (housePlace != NONE) {
                lane.addHouse(housePlace);
            }
        }

        private void readNeed(Row text, Lane lane) {
            int kind = kindOf(text.cell(place));
            if (kind == NONE || lane.needs >= NEEDS) {
                stop();
                return;
            }
            place++;
            int house = text.cell(place) - 'A';
            if (!lane.isHouse(house)) {
                stop();
                return;
            }
            place++;
            int from = readSign(text, ':') ? readNumber(text, WATCHES - 1) : NONE;
            int to = from != NONE && readSign(text, '-') ? readNumber(text, WATCHES - 1) : NONE;
            if (to != NONE && to < from) {
                stop();
                return;
            }
            int length = to != NONE && readSign(text, ':') ? readFigure(text, 4) : NONE;
            int worth = length != NONE && readSign(text, ':') ? readFigure(text, 9) : NONE;
            if (worth != NONE) {
                Need need = lane.addNeed();
                need.kind = kind;
                need.house = house;
                need.from = from;
                need.to = to;
                need.length = length;
                need.worth = worth;
                need.chance = CERTAIN;
            }
        }

        private void stop() {
            faultPlace = place;
        }

        private static int kindOf(int letter) {
            for (int kind = 0; kind < NEED_LETTERS.length; kind++) {
                if (NEED_LETTERS[kind] == letter) {
                    return kind;
                }
            }
            return NONE;
        }

        private boolean readSign(Row text, char sign) {
            if (text.cell(place) != sign) {
                stop();
                return false;
            }
            place++;
            return true;
        }

        private int figureHere(Row text) {
            int sign = text.cell(place);
            return sign >= '0' && sign <= '9' ? sign - '0' : NONE;
        }

        private int readNumber(Row text, int most) {
            int number = figureHere(text);
            if (number == NONE) {
                stop();
                return NONE;
            }
            place++;
            int units = figureHere(text);
            if (units != NONE) {
                number = 10 * number + units;
                place++;
            }
            if (number > most) {
                stop();
                return NONE;
            }
            return number;
        }

        private int readFigure(Row text, int most) {
            int figure = figureHere(text);
            if (figure < 1 || figure > most) {
                stop();
                return NONE;
            }
            place++;
            return figure;
        }
    }

    /** What the way of a coat asks of each NEED: where, from when, begun when at the latest, how long. */
    private static final class Jobs {
        private final int[] places = new int[NEEDS];
        private final int[] froms = new int[NEEDS];
        private final int[] latests = new int[NEEDS];
        private final int[] lengths = new int[NEEDS];
        private final int[] worths = new int[NEEDS];
        private int size = 0;

        void load(Lane lane) {
            size = Math.min(lane.needs, NEEDS);
            for (int i = 0; i < size; i++) {
                Need need = lane.needOf(i);
                places[i] = lane.placeOf(need.house);
                froms[i] = need.from;
                latests[i] = need.latestBeginning();
                lengths[i] = need.length;
                worths[i] = need.worth;
            }
        }

        /** Two in the coat: the first one becomes both, and begins whenever it can. */
        void join(int i, Need one, Need other) {
            if (i >= 0 && i < size && i < NEEDS) {
                froms[i] = Math.max(one.from, other.from);
                latests[i] = Math.min(one.to, other.to) - one.length + 1;
                worths[i] = one.worth + other.worth;
            }
        }

        int placeOf(int i) {
            return i >= 0 && i < size && i < NEEDS ? places[i] : 0;
        }

        int lengthOf(int i) {
            return i >= 0 && i < size && i < NEEDS ? lengths[i] : 0;
        }

        int worthOf(int set) {
            int sum = 0;
            for (int i = 0; i < size; i++) {
                if (isIn(i, set)) {
                    sum += worths[i];
                }
            }
            return sum;
        }

        /** When a need ends by a coat that is free at a place; NONE: it can't be met. */
        int ending(int i, int place, int free) {
            if (i < 0 || i >= size || i >= NEEDS) {
                return NONE;
            }
            int begin = free + watchesApart(place, places[i]);
            if (begin < froms[i]) {
                begin = froms[i];
            }
            return begin <= latests[i] ? begin + lengths[i] : NONE;
        }
    }

    /** The way of a coat: the NEEDS met one behind the other, and when each begins. */
    private static final class Way {
        private final Jobs jobs;
        private final int[] needs = new int[NEEDS];
        private final int[] beginnings = new int[NEEDS];
        private int size = 0;
        private int place = 0;
        private int free = 0;

        Way(Jobs jobs) {
            this.jobs = jobs;
        }

        void beginAt(int startPlace) {
            size = 0;
            place = startPlace;
            free = 0;
        }

        /** Goes on to a need, if that can be met. */
        boolean meet(int i) {
            int end = jobs.ending(i, place, free);
            if (end == NONE || size < 0 || size >= NEEDS) {
                return false;
            }
            needs[size] = i;
            beginnings[size] = end - jobs.lengthOf(i);
            size++;
            place = jobs.placeOf(i);
            free = end;
            return true;
        }

        private boolean has(int i) {
            return i >= 0 && i < size && i < NEEDS;
        }

        int needOf(int i) {
            return has(i) ? needs[i] : NONE;
        }

        int beginningOf(int i) {
            return has(i) ? beginnings[i] : NONE;
        }

        int metBits() {
            int bits = 0;
            for (int i = 0; i < size; i++) {
                bits |= bit(needOf(i));
            }
            return bits;
        }

        int worth() {
            return jobs.worthOf(metBits());
        }

        int watchesWorn() {
            int bits = 0;
            for (int i = 0; i < size; i++) {
                int length = jobs.lengthOf(needOf(i));
                bits |= (1 << length) - 1 << beginningOf(i);
            }
            return bits;
        }
    }

    /**
     * What a coat can meet. A coat that is free earlier at the same place never meets less, so the
     * least end for each set and each need that is met last tells all.
     */
    private static final class Planner {
        /** The column behind those of the needs: no need yet, or a mending, was last. */
        private static final int TAIL = NEEDS;
        private static final int COLUMNS = NEEDS + 1;

        private final Jobs jobs;
        private final int[] ends = new int[SETS * COLUMNS];
        private final int[] least = new int[SETS];
        private final int[] aside = new int[SETS];

        Planner(Jobs jobs) {
            this.jobs = jobs;
        }

        int endOf(int set) {
            return set >= 0 && set < SETS ? least[set] : NONE;
        }

        /** The ends of all sets within a set, by a coat that is free at a place. */
        void reach(int within, int place, int free) {
            for (int set = 0; set < SETS; set++) {
                ends[set * COLUMNS + TAIL] = set == 0 ? free : NONE;
            }
            spread(within, place);
        }

        private void spread(int within, int tailPlace) {
            for (int set = 0; set < SETS; set++) {
                boolean isWithin = (set & ~within) == 0;
                int end = isWithin ? ends[set * COLUMNS + TAIL] : NONE;
                for (int i = 0; i < NEEDS && isWithin; i++) {
                    int last = isIn(i, set) ? leastEnding(set & ~bit(i), i, tailPlace) : NONE;
                    ends[set * COLUMNS + i] = last;
                    end = lesserEnd(end, last);
                }
                least[set] = end;
            }
        }

        /** The least end of a need, met behind all of a set that has been spread to. */
        private int leastEnding(int set, int i, int tailPlace) {
            int end = NONE;
            boolean isSet = set >= 0 && set < SETS;
            for (int last = 0; last < COLUMNS && isSet; last++) {
                int free = ends[set * COLUMNS + last];
                int place = last == TAIL ? tailPlace : jobs.placeOf(last);
                if (free != NONE) {
                    end = lesserEnd(end, jobs.ending(i, place, free));
                }
            }
            return end;
        }

        private static int lesserEnd(int end, int other) {
            if (end == NONE || other == NONE) {
                return end == NONE ? other : end;
            }
            return end < other ? end : other;
        }

        /** The plan of the most worth among what is allowed, with all that is due; NONE: there is none. */
        int bestPlan(int allowed, int due) {
            int plan = NONE;
            int most = NONE;
            for (int set = 0; set < SETS; set++) {
                boolean fits = (set & ~allowed) == 0 && (due & ~set) == 0 && least[set] != NONE;
                if (fits && jobs.worthOf(set) > most) {
                    plan = set;
                    most = jobs.worthOf(set);
                }
            }
            return plan;
        }

        /** Keeps the ends, for another coat to be put beside this one. */
        void setAside() {
            System.arraycopy(least, 0, aside, 0, SETS);
        }

        int mostByTwo(int all, int due) {
            int most = NONE;
            for (int set = 0; set <= all && set < SETS; set++) {
                boolean canBeMet = least[set] != NONE;
                for (int other = 0; other <= all && other < SETS && canBeMet; other++) {
                    boolean fits = (set & other) == 0 && (due & ~(set | other)) == 0;
                    if (fits && aside[other] != NONE) {
                        most = Math.max(most, jobs.worthOf(set | other));
                    }
                }
            }
            return most;
        }

        int mostMendings(int set, int startPlace, int mendPlace) {
            reach(set, startPlace, 0);
            int most = endOf(set) == NONE ? NONE : 0;
            int tailPlace = startPlace;
            for (int i = 1; i <= MENDINGS && endOf(set) != NONE; i++) {
                mendOnce(mendPlace, tailPlace);
                tailPlace = mendPlace;
                spread(set, tailPlace);
                if (endOf(set) != NONE) {
                    most = i;
                }
            }
            return most;
        }

        /** One mending more behind each set; what may follow it is for spread to say. */
        private void mendOnce(int mendPlace, int tailPlace) {
            for (int set = 0; set < SETS; set++) {
                int end = NONE;
                for (int last = 0; last < COLUMNS && least[set] != NONE; last++) {
                    int free = ends[set * COLUMNS + last];
                    int place = last == TAIL ? tailPlace : jobs.placeOf(last);
                    if (free != NONE) {
                        int mended = free + watchesApart(place, mendPlace) + 1;
                        end = lesserEnd(end, mended <= WATCHES ? mended : NONE);
                    }
                }
                ends[set * COLUMNS + TAIL] = end;
            }
        }
    }

    /** In how many ORDERS sets can be DONE, by the need that is last and its end. */
    private static final class Tally {
        private static final int ENDS = WATCHES + 1;

        private final Jobs jobs;
        private final int[] numbers = new int[SETS * NEEDS * ENDS];

        Tally(Jobs jobs) {
            this.jobs = jobs;
        }

        int numberOfOrders(int set, int startPlace) {
            int number = 0;
            for (int part = 1; part <= set && part < SETS; part++) {
                boolean isPart = (part & ~set) == 0;
                for (int last = 0; last < NEEDS && isPart; last++) {
                    if (isIn(last, part)) {
                        numberTo(part, last, startPlace);
                        number += part == set ? sumOf(part, last) : 0;
                    }
                }
            }
            return set == 0 ? 1 : number;
        }

        private void numberTo(int set, int last, int startPlace) {
            int rest = set & ~bit(last);
            for (int end = 0; end < ENDS; end++) {
                setNumber(set, last, end, 0);
            }
            if (rest == 0) {
                setNumber(set, last, jobs.ending(last, startPlace, 0), 1);
            }
            for (int i = 0; i < NEEDS; i++) {
                boolean isAhead = isIn(i, rest);
                for (int free = 0; free < ENDS && isAhead; free++) {
                    int number = numberOf(rest, i, free);
                    if (number > 0) {
                        int end = jobs.ending(last, jobs.placeOf(i), free);
                        setNumber(set, last, end, numberOf(set, last, end) + number);
                    }
                }
            }
        }

        private int sumOf(int set, int last) {
            int sum = 0;
            for (int end = 0; end < ENDS; end++) {
                sum += numberOf(set, last, end);
            }
            return sum;
        }

        private static boolean isThere(int set, int last, int end) {
            return set >= 0 && set < SETS && last >= 0 && last < NEEDS && end >= 0 && end < ENDS;
        }

        private int numberOf(int set, int last, int end) {
            return isThere(set, last, end) ? numbers[(set * NEEDS + last) * ENDS + end] : 0;
        }

        /** An end that is NONE has no number. */
        private void setNumber(int set, int last, int end, int number) {
            if (isThere(set, last, end)) {
                numbers[(set * NEEDS + last) * ENDS + end] = number;
            }
        }
    }

    /** Chooses the next need, again and again, by the letters of a RULE (told by their places). */
    private static final class Chooser {
        private final Lane lane;
        private final Way way;
        private final int[] letters = new int[4];
        private int size = 0;

        Chooser(Lane lane, Way way) {
            this.lane = lane;
            this.way = way;
        }

        /** False: the TEXT is no RULE. */
        boolean takeRule(Row text) {
            size = 0;
            if (text.length() < 1 || text.length() > letters.length) {
                return false;
            }
            for (int i = 0; i < text.length(); i++) {
                int letter = letterOf(text.cell(i));
                if (letter == NONE) {
                    return false;
                }
                addLetter(letter);
            }
            return true;
        }

        /** A rule by the number that tells it; false: there is none such. */
        boolean takeNumber(int number) {
            int most = RULE_LETTERS.length;
            size = 0;
            if (number < most) {
                addLetter(number);
                return true;
            }
            int first = (number - most) / 5;
            int second = (number - most) % 5;
            addLetter(first);
            addLetter(second);
            return first != second;
        }

        private void addLetter(int letter) {
            if (size < letters.length) {
                letters[size] = letter;
                size++;
            }
        }

        private static int letterOf(int sign) {
            for (int letter = 0; letter < RULE_LETTERS.length; letter++) {
                if (RULE_LETTERS[letter] == sign) {
                    return letter;
                }
            }
            return NONE;
        }

        void go() {
            way.beginAt(lane.startPlace());
            boolean goesOn = true;
            for (int i = 0; i < NEEDS && goesOn; i++) {
                goesOn = way.meet(nextByRule());
            }
        }

        private int nextByRule() {
            int met = way.metBits();
            int next = NONE;
            for (int i = 0; i < lane.needs; i++) {
                boolean fits = !isIn(i, met) && way.jobs.ending(i, way.place, way.free) != NONE;
                if (fits && (next == NONE || isAhead(i, next))) {
                    next = i;
                }
            }
            return next;
        }

        private boolean isAhead(int i, int other) {
            for (int k = 0; k < size && k < letters.length; k++) {
                int difference = rankOf(i, letters[k]) - rankOf(other, letters[k]);
                if (difference != 0) {
                    return difference < 0;
                }
            }
            return false;
        }

        private int rankOf(int i, int letter) {
            Need need = lane.needOf(i);
            switch (letter) {
                case 0:
                    return -need.worth;
                case 1:
                    return need.to;
                case 2:
                    return need.length;
                case 3:
                    return watchesApart(way.place, lane.placeOf(need.house));
                default:
                    return need.isA(MUST) ? 0 : 1;
            }
        }
    }

    /** The HOURS of the HOUSES, what they OWE one another, and the DEALS that made it so. */
    private static final class Ledger {
        private final int[] hours = new int[HOUSES];
        private final int[] owed = new int[HOUSES * HOUSES];
        private final int[] kinds = new int[DEALS];
        private final int[] doers = new int[DEALS];
        private final int[] others = new int[DEALS];
        private final int[] amounts = new int[DEALS];
        private int deals = 0;

        void clear() {
            deals = 0;
            for (int h = 0; h < hours.length; h++) {
                hours[h] = 0;
            }
            for (int i = 0; i < owed.length; i++) {
                owed[i] = 0;
            }
        }

        private static boolean isOne(int h) {
            return h >= 0 && h < HOUSES;
        }

        int hoursOf(int h) {
            return isOne(h) ? hours[h] : 0;
        }

        void setHours(int h, int n) {
            if (isOne(h)) {
                hours[h] = n;
            }
        }

        int owedBy(int h, int k) {
            return isOne(h) && isOne(k) ? owed[h * HOUSES + k] : 0;
        }

        void setOwed(int h, int k, int n) {
            if (isOne(h) && isOne(k)) {
                owed[h * HOUSES + k] = n;
            }
        }

        int owedInAllTo(int k) {
            int sum = 0;
            for (int h = 0; h < HOUSES; h++) {
                sum += owedBy(h, k);
            }
            return sum;
        }

        boolean isFull() {
            return deals >= DEALS;
        }

        boolean allows(int kind, int h, int k, int n) {
            if (kind == SAVED) {
                return true;
            }
            if (kind == GIVEN_BACK && owedBy(h, k) < n) {
                return false;
            }
            return hoursOf(kind == STOLEN ? k : h) >= n;
        }

        /** Its number. */
        int enter(int kind, int h, int k, int n) {
            if (deals < 0 || deals >= DEALS) {
                return FULL;
            }
            kinds[deals] = kind;
            doers[deals] = h;
            others[deals] = k;
            amounts[deals] = n;
            deals++;
            settle(kind, h, k, n);
            return deals - 1;
        }

        /** The last ones go first, so no hours come below 0 between. */
        int undoFrom(int n) {
            int undone = deals - n;
            for (int i = deals - 1; i >= n && i >= 0 && i < DEALS; i--) {
                settle(kinds[i], doers[i], others[i], -amounts[i]);
                deals = i;
            }
            return undone;
        }

        /** A deal; with n below 0 the same deal undone. */
        private void settle(int kind, int h, int k, int n) {
            switch (kind) {
                case SAVED:
                    setHours(h, hoursOf(h) + n);
                    break;
                case LENT:
                    move(h, k, n);
                    setOwed(k, h, owedBy(k, h) + n);
                    break;
                case SOLD:
                    move(h, k, n);
                    break;
                case STOLEN:
                    move(k, h, n);
                    setOwed(h, k, owedBy(h, k) + 2 * n);
                    break;
                default:
                    move(h, k, n);
                    setOwed(h, k, owedBy(h, k) - n);
                    break;
            }
        }

        private void move(int h, int k, int n) {
            setHours(h, hoursOf(h) - n);
            setHours(k, hoursOf(k) + n);
        }
    }

    /** HOUSES with a number each, in the order in which they came: the POCKET, the TRACKS. */
    private static final class Pairs {
        private final int[] houses;
        private final int[] values;
        private int size = 0;

        Pairs(int most) {
            houses = new int[Math.max(0, most)];
            values = new int[Math.max(0, most)];
        }

        boolean isFull() {
            return size >= houses.length;
        }

        private boolean has(int i) {
            return i >= 0 && i < size && i < houses.length && i < values.length;
        }

        int houseOf(int i) {
            return has(i) ? houses[i] : NONE;
        }

        int valueOf(int i) {
            return has(i) ? values[i] : NONE;
        }

        void add(int h, int value) {
            if (size < houses.length && size < values.length) {
                houses[size] = h;
                values[size] = value;
                size++;
            }
        }

        void cutTo(int n) {
            if (n >= 0 && n < size) {
                size = n;
            }
        }

        int lastOf(int h) {
            for (int i = size - 1; i >= 0; i--) {
                if (houseOf(i) == h) {
                    return i;
                }
            }
            return NONE;
        }

        boolean hasValue(int value) {
            for (int i = 0; i < size; i++) {
                if (valueOf(i) == value) {
                    return true;
                }
            }
            return false;
        }

        void takeOut(int place) {
            if (!has(place)) {
                return;
            }
            for (int i = place; i + 1 < size && i + 1 < houses.length; i++) {
                houses[i] = houses[i + 1];
                values[i] = values[i + 1];
            }
            size--;
        }
    }
}
