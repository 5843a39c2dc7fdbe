import java.math.BigInteger;
import java.util.ArrayList;
import java.util.Arrays;
import java.util.HashMap;
import java.util.List;
import java.util.Map;
import java.util.regex.Matcher;
import java.util.regex.Pattern;

/**
 * The document told once more, apart from the program and as plainly as can be: each call says its
 * refusals in the order in which its promise names them. ModelTest holds wild runs against it.
 */
public final class Model {
    private static final int BAD = -1;
    private static final int FULL = -2;
    private static final int FINDING = -3;
    private static final int STATE = -4;
    private static final int SPENT = -6;
    private static final int NONE = -9;
    private static final int NOTHING = 1;
    private static final int BEYOND = 2;
    private static final int UNLIKE = 3;
    private static final int NOUGHT = 4;
    private static final int SIZE = 5;

    private final int[][] rows = new int[6][];
    private final byte[][] texts = new byte[4][];
    private Trial village = new Trial();
    private boolean isTried;
    /** What a house owes another one; on the diagonal its hours; as on() told, ahead of all deals. */
    private int[][] before = new int[0][0];
    private final List<int[]> deals = new ArrayList<>();
    private final List<int[]> things = new ArrayList<>();
    private final List<int[]> tracks = new ArrayList<>();
    private final int[] findingsOf = new int[6];
    private int finding;
    private int asked;
    private long upper;
    private long lower = 1;

    private int found(int f) {
        finding = f;
        findingsOf[f]++;
        return FINDING;
    }

    private static boolean isOf(int[][] rows, int r) {
        return r >= 0 && r < rows.length;
    }

    private boolean isText(int t) {
        return t >= 0 && t < texts.length;
    }

    private boolean isHouse(int h) {
        return h >= 0 && h < village.places.size();
    }

    private boolean isNeed(int i) {
        return i >= 0 && i < village.jobs.size();
    }

    private boolean isSet(int set) {
        return set >= 0 && set < 1 << village.jobs.size();
    }

    // ---- 1 rows, texts, villages

    public int row(int r, int n) {
        if (!isOf(rows, r) || n > 60) {
            return BAD;
        }
        if (n < 0) {
            return found(SIZE);
        }
        rows[r] = new int[n];
        return n;
    }

    public int lay(int r, int i, int v) {
        int answer = at(r, i);
        if (answer == 1) {
            rows[r][i] = v;
        }
        return answer;
    }

    public int at(int r, int i) {
        if (!isOf(rows, r)) {
            return BAD;
        }
        if (rows[r] == null) {
            return found(NOTHING);
        }
        if (i < 0 || i >= rows[r].length) {
            return found(BEYOND);
        }
        asked = rows[r][i];
        return 1;
    }

    public int tear(int r) {
        if (!isOf(rows, r)) {
            return BAD;
        }
        if (rows[r] == null) {
            return found(NOTHING);
        }
        rows[r] = null;
        return 1;
    }

    public int copy(int r, int i, int to, int j, int n) {
        if (!isOf(rows, r) || !isOf(rows, to)) {
            return BAD;
        }
        if (n < 0) {
            return found(SIZE);
        }
        if (rows[r] == null || rows[to] == null) {
            return found(NOTHING);
        }
        long end = (long) i + n;
        long otherEnd = (long) j + n;
        if (i < 0 || j < 0 || end > rows[r].length || otherEnd > rows[to].length) {
            return found(BEYOND);
        }
        int[] ahead = rows[r].clone();
        for (int k = 0; k < n; k++) {
            rows[to][j + k] = ahead[i + k];
        }
        return 1;
    }

    public int mean(int r) {
        if (!isOf(rows, r)) {
            return BAD;
        }
        if (rows[r] == null) {
            return found(NOTHING);
        }
        if (rows[r].length == 0) {
            return found(NOUGHT);
        }
        BigInteger sum = BigInteger.ZERO;
        for (int v : rows[r]) {
            sum = sum.add(BigInteger.valueOf(v));
        }
        asked = sum.divide(BigInteger.valueOf(rows[r].length)).intValueExact();
        return 1;
    }

    public int text(int t, int n) {
        if (!isText(t) || n > 120) {
            return BAD;
        }
        if (n < 0) {
            return found(SIZE);
        }
        texts[t] = new byte[n];
        Arrays.fill(texts[t], (byte) 32);
        return n;
    }

    public int put(int t, int i, int v) {
        if (!isText(t)) {
            return BAD;
        }
        if (texts[t] == null) {
            return found(NOTHING);
        }
        if (i < 0 || i >= texts[t].length) {
            return found(BEYOND);
        }
        int was = texts[t][i];
        int low = Math.floorMod(v, 256);
        texts[t][i] = (byte) (low > 127 ? low - 256 : low);
        return was + 1000;
    }

    public int fault(int t) {
        if (!isText(t)) {
            return BAD;
        }
        return texts[t] == null ? found(NOTHING) : read(signs(texts[t]), new Trial());
    }

    public int village(int t) {
        if (!isText(t)) {
            return BAD;
        }
        if (texts[t] == null) {
            return found(NOTHING);
        }
        Trial read = new Trial();
        if (read(signs(texts[t]), read) != NONE) {
            return STATE;
        }
        village = read;
        isTried = false;
        before = new int[read.places.size()][read.places.size()];
        deals.clear();
        things.clear();
        tracks.clear();
        return read.places.size();
    }

    private static String signs(byte[] text) {
        StringBuilder signs = new StringBuilder();
        for (byte b : text) {
            signs.append((char) (b & 255));
        }
        return signs.toString();
    }

    private static final Pattern NUMBER = Pattern.compile("[0-9][0-9]?");

    /** The number at a place; above 99: there is none. */
    private static int numberAt(String text, int place) {
        Matcher matcher = NUMBER.matcher(text).region(Math.min(place, text.length()), text.length());
        return matcher.lookingAt() ? Integer.parseInt(matcher.group()) : 100;
    }

    private static int behindNumber(String text, int place) {
        Matcher matcher = NUMBER.matcher(text).region(Math.min(place, text.length()), text.length());
        return matcher.lookingAt() ? matcher.end() : place;
    }

    private static boolean has(String text, int place, String signs) {
        return place < text.length() && signs.indexOf(text.charAt(place)) >= 0;
    }

    /** The FAULT; what is told ahead of it comes to the village. */
    private static int read(String text, Trial to) {
        int place = 0;
        while (place < text.length()) {
            if (text.charAt(place) == ' ') {
                place++;
            } else if (text.charAt(place) == 'h' && to.places.size() < 8) {
                int number = numberAt(text, place + 1);
                place = behindNumber(text, place + 1);
                if (number > 15) {
                    return place;
                }
                to.places.add(number);
            } else if (has(text, place, Trial.LETTERS) && to.jobs.size() < 8) {
                int[] told = new int[6];
                int fault = readJob(text, place, to.places.size(), told);
                if (fault != NONE) {
                    return fault;
                }
                to.jobs.add(new Trial.Job(told[0], told[1], told[2], told[3], told[4], told[5]));
                place = behindJob(text, place);
            } else {
                return place;
            }
        }
        return NONE;
    }

    private static int behindJob(String text, int begin) {
        return behindNumber(text, behindNumber(text, begin + 3) + 1) + 4;
    }

    private static int readJob(String text, int begin, int houses, int[] told) {
        told[0] = Trial.LETTERS.indexOf(text.charAt(begin));
        if (!has(text, begin + 1, "ABCDEFGH".substring(0, houses))) {
            return begin + 1;
        }
        told[1] = text.charAt(begin + 1) - 65;
        if (!has(text, begin + 2, ":")) {
            return begin + 2;
        }
        told[2] = numberAt(text, begin + 3);
        int place = behindNumber(text, begin + 3);
        if (told[2] > 27 || !has(text, place, "-")) {
            return place;
        }
        told[3] = numberAt(text, place + 1);
        place = behindNumber(text, place + 1);
        if (told[3] > 27 || told[3] < told[2] || !has(text, place, ":")) {
            return place;
        }
        if (!has(text, place + 1, "1234")) {
            return place + 1;
        }
        told[4] = text.charAt(place + 1) - 48;
        if (!has(text, place + 2, ":")) {
            return place + 2;
        }
        if (!has(text, place + 3, "123456789")) {
            return place + 3;
        }
        told[5] = text.charAt(place + 3) - 48;
        return NONE;
    }

    public int house(int h) {
        if (!isHouse(h)) {
            return BAD;
        }
        asked = ledger(deals)[h][h];
        return village.places.get(h);
    }

    private int[] told(int i) {
        Trial.Job job = village.jobs.get(i);
        return new int[] {job.kind, job.house, job.a, job.b, job.n, job.v};
    }

    public int need(int i, int what) {
        if (!isNeed(i) || what < 0 || what > 5) {
            return BAD;
        }
        asked = told(i)[what];
        return 1;
    }

    public int mark(int i, int kind) {
        if (!isNeed(i) || kind <= 0 || kind > 5) {
            return BAD;
        }
        Trial.Job job = village.jobs.get(i);
        boolean is = kind == job.kind || kind == 1 && job.isMust() || kind == 2 && job.isLot();
        if (!is) {
            return found(UNLIKE);
        }
        int spare = job.b + 1 - (job.a + job.n);
        switch (kind) {
            case 1:
                return job.v;
            case 2:
                return job.chance;
            case 3:
                return job.a + job.n - 1;
            case 4:
                return spare < 0 ? 0 : spare == 0 ? 1 : 2;
            default:
                return spare < 0 ? NONE : spare;
        }
    }

    public int start(int h) {
        if (!isHouse(h)) {
            return BAD;
        }
        int was = village.startHouse;
        village.startHouse = h;
        isTried = false;
        return was;
    }

    public int carry(int h, int k) {
        return isHouse(h) && isHouse(k) ? village.carry(h, k) : BAD;
    }

    public int chance(int i, int p) {
        if (!isNeed(i) || p < 0 || p > 12) {
            return BAD;
        }
        if (!village.jobs.get(i).isLot()) {
            return found(UNLIKE);
        }
        int was = village.jobs.get(i).chance;
        village.jobs.get(i).chance = p;
        return was;
    }

    // ---- 2 orders, plans

    private Trial tried() {
        if (!isTried) {
            village.tryAll(village.startHouse);
            isTried = true;
        }
        return village;
    }

    private int wrongInOrder(int r) {
        if (rows[r] == null) {
            return NOTHING;
        }
        if (rows[r].length > village.jobs.size()) {
            return SIZE;
        }
        boolean[] seen = new boolean[8];
        for (int i : rows[r]) {
            if (!isNeed(i) || seen[i]) {
                return UNLIKE;
            }
            seen[i] = true;
        }
        return 0;
    }

    /** When the needs of a row begin, one behind the other, up to the first one that can't be met. */
    private List<Integer> beginnings(int r) {
        List<Integer> begins = new ArrayList<>();
        int house = village.startHouse;
        int free = 0;
        for (int i : rows[r]) {
            Trial.Job job = village.jobs.get(i);
            int begin = village.begin(job, house, free);
            if (begin < 0) {
                return begins;
            }
            begins.add(begin);
            house = job.house;
            free = begin + job.n;
        }
        return begins;
    }

    public int order(int r) {
        if (!isOf(rows, r)) {
            return BAD;
        }
        int wrong = wrongInOrder(r);
        if (wrong != 0) {
            return found(wrong);
        }
        List<Integer> begins = beginnings(r);
        int last = begins.size() - 1;
        asked = last < 0 ? 0 : begins.get(last) + village.jobs.get(rows[r][last]).n;
        return begins.size();
    }

    public int begins(int r, int i) {
        if (!isOf(rows, r) || i < 0 || i > 7) {
            return BAD;
        }
        int wrong = wrongInOrder(r);
        if (wrong != 0) {
            return found(wrong);
        }
        if (i >= rows[r].length) {
            return found(BEYOND);
        }
        List<Integer> begins = beginnings(r);
        return i < begins.size() ? begins.get(i) : NONE;
    }

    public int can(int set) {
        return isSet(set) ? tried().ends[set] : BAD;
    }

    public int sets() {
        int number = 0;
        int most = 0;
        for (int set = 0; isSet(set); set++) {
            if (tried().ends[set] != NONE) {
                number++;
                most = Math.max(most, village.worth(set));
            }
        }
        asked = most;
        return number;
    }

    public int best() {
        int best = tried().best(0, -1);
        asked = best == NONE ? asked : village.worth(best);
        return best;
    }

    public int first(int set, int r) {
        if (!isOf(rows, r) || !isSet(set)) {
            return BAD;
        }
        if (tried().ends[set] == NONE) {
            return NONE;
        }
        rows[r] = ints(village.firsts.get(set));
        return 1;
    }

    private static int[] ints(List<Integer> list) {
        int[] ints = new int[list.size()];
        for (int i = 0; i < ints.length; i++) {
            ints[i] = list.get(i);
        }
        return ints;
    }

    public int orders(int set) {
        return isSet(set) ? tried().numbers[set] : BAD;
    }

    public int costs(int i) {
        if (!isNeed(i)) {
            return BAD;
        }
        int best = tried().best(0, -1);
        int without = village.best(1 << i, i);
        return best == NONE || without == NONE ? NONE : village.worth(without) - village.worth(best & ~(1 << i));
    }

    public int worn(int set) {
        if (!isSet(set)) {
            return BAD;
        }
        if (tried().ends[set] == NONE) {
            return NONE;
        }
        int bits = 0;
        for (int k = 0; k < village.firsts.get(set).size(); k++) {
            int begin = village.firstBegins.get(set).get(k);
            int end = begin + village.jobs.get(village.firsts.get(set).get(k)).n;
            for (int watch = begin; watch < end; watch++) {
                bits |= 1 << watch;
            }
        }
        return bits;
    }

    // ---- 3 rules, second coats, two in it, mendings

    public int rule(int t, int r) {
        if (!isText(t) || !isOf(rows, r)) {
            return BAD;
        }
        if (texts[t] == null) {
            return found(NOTHING);
        }
        if (!signs(texts[t]).matches("[vbncm]{1,4}")) {
            return STATE;
        }
        List<Integer> line = village.byRule(signs(texts[t]));
        rows[r] = ints(line);
        return village.worthOf(line);
    }

    public int wise() {
        String letters = "vbncm";
        int wisest = 0;
        int most = NONE;
        for (int number = 0; number < 30; number++) {
            int one = number < 5 ? number : (number - 5) / 5;
            int other = number < 5 ? number : (number - 5) % 5;
            boolean isRule = number < 5 || one != other;
            String rule = "" + letters.charAt(one) + letters.charAt(other);
            int worth = isRule ? village.worthOf(village.byRule(rule)) : NONE;
            if (worth > most) {
                most = worth;
                wisest = number;
            }
        }
        asked = most;
        return wisest;
    }

    public int second(int h) {
        if (!isHouse(h)) {
            return BAD;
        }
        int most = village.second(h);
        if (most == NONE) {
            return NONE;
        }
        int best = tried().best(0, -1);
        asked = best == NONE ? most : most - village.worth(best);
        return most;
    }

    public int two(int i, int j) {
        return !isNeed(i) || !isNeed(j) || i == j ? BAD : village.two(i, j);
    }

    public int mends(int set, int h) {
        if (!isSet(set) || !isHouse(h)) {
            return BAD;
        }
        Map<Integer, Integer> known = new HashMap<>();
        int most = mostMendings(set, village.startHouse, 0, h, known);
        return Math.min(8, most);
    }

    /** How many mendings fit, also more than 8, until all the rest is met; NONE: it can't be met. */
    private int mostMendings(int rest, int house, int free, int at, Map<Integer, Integer> known) {
        int key = (rest * 8 + house) * 32 + free;
        if (known.containsKey(key)) {
            return known.get(key);
        }
        int most = rest == 0 ? 0 : NONE;
        for (int i = 0; isNeed(i); i++) {
            Trial.Job job = village.jobs.get(i);
            int begin = (rest >> i & 1) == 0 ? -1 : village.begin(job, house, free);
            if (begin >= 0) {
                most = Math.max(most, mostMendings(rest & ~(1 << i), job.house, begin + job.n, at, known));
            }
        }
        int begin = free + village.carry(house, at);
        int behind = begin > 27 ? NONE : mostMendings(rest, at, begin + 1, at, known);
        most = Math.max(most, behind == NONE ? NONE : behind + 1);
        known.put(key, most);
        return most;
    }

    // ---- 4 chances

    private void tellFraction(BigInteger over, BigInteger under) {
        BigInteger divisor = over.gcd(under);
        upper = over.divide(divisor).longValueExact();
        lower = under.divide(divisor).longValueExact();
    }

    public int odds() {
        BigInteger ways = BigInteger.ZERO;
        BigInteger all = BigInteger.ONE;
        for (Trial.Job job : village.jobs) {
            all = job.isLot() ? all.multiply(BigInteger.valueOf(12)) : all;
        }
        for (int called = 0; isSet(called); called++) {
            BigInteger of = BigInteger.ONE;
            int due = 0;
            for (int i = 0; i < village.jobs.size(); i++) {
                Trial.Job job = village.jobs.get(i);
                boolean isCalled = (called >> i & 1) == 1;
                int parts = !job.isLot() ? isCalled ? 0 : 1 : isCalled ? job.chance : 12 - job.chance;
                of = of.multiply(BigInteger.valueOf(parts));
                due |= isCalled || job.isMust() ? 1 << i : 0;
            }
            ways = tried().ends[due] == NONE ? ways : ways.add(of);
        }
        tellFraction(ways, all);
        return 1;
    }

    public int call(int seed) {
        if (seed < 1 || seed > 2147483646) {
            return BAD;
        }
        BigInteger number = BigInteger.valueOf(seed);
        int called = 0;
        int others = 0;
        for (int i = 0; i < village.jobs.size(); i++) {
            number = number.multiply(BigInteger.valueOf(48271)).mod(BigInteger.valueOf(2147483647));
            Trial.Job job = village.jobs.get(i);
            boolean isCalled = job.isLot() && number.mod(BigInteger.valueOf(12)).intValue() < job.chance;
            called |= isCalled ? 1 << i : 0;
            others |= job.isLot() && !isCalled ? 1 << i : 0;
        }
        int best = tried().best(others, -1);
        asked = best == NONE ? NONE : village.worth(best);
        return called;
    }

    public int keep(int r) {
        if (!isOf(rows, r)) {
            return BAD;
        }
        if (rows[r] == null) {
            return found(NOTHING);
        }
        if (rows[r].length != village.places.size()) {
            return found(SIZE);
        }
        int all = 0;
        for (int part : rows[r]) {
            if (part < 0 || part > 99) {
                return found(UNLIKE);
            }
            all += part;
        }
        if (all == 0) {
            return found(NOUGHT);
        }
        int nearest = -1;
        int least = Integer.MAX_VALUE;
        for (int h = 0; isHouse(h); h++) {
            int sum = 0;
            for (int k = 0; isHouse(k); k++) {
                sum += village.carry(h, k) * rows[r][k];
            }
            if (sum < least) {
                least = sum;
                nearest = h;
            }
        }
        tellFraction(BigInteger.valueOf(least), BigInteger.valueOf(all));
        return nearest;
    }

    // ---- 5 hours, a pocket, tracks

    /** All that is owed, hours on the diagonal, by deals from what was told ahead of them. */
    private int[][] ledger(List<int[]> of) {
        int[][] table = new int[before.length][];
        for (int h = 0; h < table.length; h++) {
            table[h] = before[h].clone();
        }
        for (int[] deal : of) {
            int h = deal[1];
            int k = deal[2];
            int n = deal[3];
            if (deal[0] == 0) {
                table[h][h] += n;
                continue;
            }
            int goes = deal[0] == 3 ? -n : n;
            table[h][h] -= goes;
            table[k][k] += goes;
            table[k][h] += deal[0] == 1 ? n : 0;
            table[h][k] += deal[0] == 3 ? 2 * n : deal[0] == 4 ? -n : 0;
        }
        return table;
    }

    public int deal(int kind, int h, int k, int n) {
        if (kind < 0 || kind > 4 || !isHouse(h) || n < 1 || n > 99 || kind > 0 && (!isHouse(k) || h == k)) {
            return BAD;
        }
        List<int[]> then = new ArrayList<>(deals);
        then.add(new int[] {kind, h, k, n});
        for (int[] line : ledger(then)) {
            for (int number : line) {
                if (number < 0) {
                    return STATE;
                }
            }
        }
        if (deals.size() == 16) {
            return FULL;
        }
        deals.add(then.get(deals.size()));
        return deals.size() - 1;
    }

    private static int cut(List<int[]> list, int n) {
        if (n < 0 || n > list.size()) {
            return BAD;
        }
        int gone = list.size() - n;
        list.subList(n, list.size()).clear();
        return gone;
    }

    public int undo(int n) {
        return cut(deals, n);
    }

    public int owes(int h, int k) {
        return !isHouse(h) || !isHouse(k) || h == k ? BAD : ledger(deals)[h][k];
    }

    public int rich() {
        if (village.places.isEmpty()) {
            return STATE;
        }
        int richest = -1;
        int most = -1;
        for (int k = 0; isHouse(k); k++) {
            int sum = 0;
            for (int h = 0; isHouse(h); h++) {
                sum += h == k ? 0 : ledger(deals)[h][k];
            }
            if (sum > most) {
                most = sum;
                richest = k;
            }
        }
        asked = most;
        return richest;
    }

    public int pocket(int h, int thing) {
        if (!isHouse(h) || thing < 0 || thing > 99) {
            return BAD;
        }
        if (things.size() == 12) {
            return FULL;
        }
        things.add(new int[] {h, thing});
        return things.size();
    }

    public int find(int h) {
        if (!isHouse(h)) {
            return BAD;
        }
        int above = 0;
        for (int i = things.size() - 1; i >= 0; i--) {
            if (things.get(i)[0] == h) {
                asked = things.remove(i)[1];
                return above;
            }
            above++;
        }
        return found(NOTHING);
    }

    public int track(int h, int watch) {
        if (!isHouse(h) || watch < 0 || watch > 27) {
            return BAD;
        }
        if (tracks.size() == 12) {
            return FULL;
        }
        tracks.add(new int[] {h, watch});
        return tracks.size() - 1;
    }

    public int forget(int n) {
        return cut(tracks, n);
    }

    private boolean canGo(int[] one, int[] other) {
        int between = Math.max(one[1], other[1]) - Math.min(one[1], other[1]);
        return one[0] == other[0] || between > 0 && between >= village.carry(one[0], other[0]);
    }

    private boolean canBe(int[] track, List<int[]> with) {
        boolean isToldAtFirst = false;
        for (int[] other : tracks) {
            isToldAtFirst |= other[1] == 0;
        }
        boolean can = isToldAtFirst || canGo(track, new int[] {village.startHouse, 0});
        for (int[] other : with) {
            can &= canGo(track, other);
        }
        return can;
    }

    public int could(int watch) {
        if (watch < 0 || watch > 27) {
            return BAD;
        }
        int bits = 0;
        for (int h = 0; isHouse(h); h++) {
            bits |= canBe(new int[] {h, watch}, tracks) ? 1 << h : 0;
        }
        return bits;
    }

    public int liar() {
        for (int i = 0; i < tracks.size(); i++) {
            if (!canBe(tracks.get(i), tracks.subList(0, i))) {
                return i;
            }
        }
        return NONE;
    }

    private List<int[]> cellsOfImage() {
        List<int[]> cells = new ArrayList<>();
        for (int h = 0; isHouse(h); h++) {
            cells.add(new int[] {h, h});
        }
        for (int h = 0; isHouse(h); h++) {
            for (int k = 0; isHouse(k); k++) {
                if (h != k) {
                    cells.add(new int[] {h, k});
                }
            }
        }
        return cells;
    }

    public int image(int r) {
        if (!isOf(rows, r)) {
            return BAD;
        }
        if (village.places.size() == 8) {
            return SPENT;
        }
        List<Integer> told = new ArrayList<>();
        for (int[] cell : cellsOfImage()) {
            told.add(ledger(deals)[cell[0]][cell[1]]);
        }
        rows[r] = ints(told);
        return told.size();
    }

    public int on(int r) {
        if (!isOf(rows, r)) {
            return BAD;
        }
        if (village.places.size() == 8) {
            return SPENT;
        }
        if (rows[r] == null) {
            return found(NOTHING);
        }
        List<int[]> cells = cellsOfImage();
        if (rows[r].length != cells.size()) {
            return found(SIZE);
        }
        for (int number : rows[r]) {
            if (number < 0 || number > 9999) {
                return found(UNLIKE);
            }
        }
        for (int i = 0; i < cells.size(); i++) {
            before[cells.get(i)[0]][cells.get(i)[1]] = rows[r][i];
        }
        deals.clear();
        return 1;
    }

    // ---- 6 what is told

    public int asked() {
        return asked;
    }

    public long upper() {
        return upper;
    }

    public long lower() {
        return lower;
    }

    public int count(int what) {
        int musts = 0;
        for (Trial.Job job : village.jobs) {
            musts += job.isMust() ? 1 : 0;
        }
        int there = 0;
        for (int[] row : rows) {
            there += row == null ? 0 : 1;
        }
        int written = 0;
        for (byte[] text : texts) {
            written += text == null ? 0 : 1;
        }
        int[] counts = {village.places.size(), village.jobs.size(), musts, deals.size(), things.size(),
            tracks.size(), there, written};
        return what < 0 || what > 7 ? BAD : counts[what];
    }

    public int finding() {
        return finding;
    }

    public int findings(int f) {
        return f < 1 || f > 5 ? BAD : findingsOf[f];
    }

    public long digest() {
        List<Integer> all = new ArrayList<>();
        for (int what = 0; what <= 7; what++) {
            all.add(count(what));
        }
        all.add(village.startHouse);
        int[][] table = ledger(deals);
        for (int h = 0; isHouse(h); h++) {
            all.add(village.places.get(h));
            all.add(table[h][h]);
            for (int k = 0; isHouse(k); k++) {
                if (k != h) {
                    all.add(table[h][k]);
                }
            }
        }
        for (int i = 0; isNeed(i); i++) {
            for (int told : told(i)) {
                all.add(told);
            }
            all.add(village.jobs.get(i).chance);
        }
        for (List<int[]> pairs : List.of(things, tracks)) {
            for (int[] pair : pairs) {
                all.add(pair[0]);
                all.add(pair[1]);
            }
        }
        for (int[] row : rows) {
            all.add(row == null ? -1 : row.length);
            for (int i = 0; row != null && i < row.length; i++) {
                all.add(row[i]);
            }
        }
        for (byte[] text : texts) {
            all.add(text == null ? -1 : text.length);
            for (int i = 0; text != null && i < text.length; i++) {
                all.add((int) text[i]);
            }
        }
        BigInteger h = BigInteger.valueOf(17);
        for (int v : all) {
            h = h.multiply(BigInteger.valueOf(31)).add(BigInteger.valueOf(v));
        }
        return h.longValue();
    }
}
