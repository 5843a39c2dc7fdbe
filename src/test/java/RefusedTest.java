import java.util.ArrayList;
import java.util.List;
import java.util.function.Consumer;
import java.util.function.Supplier;
import java.util.function.ToIntFunction;

/**
 * Each refusal of each promise, and where two would fit the one that comes first: a refused call
 * changes nothing but finding(), findings(), and an object that it was made on answers all calls
 * after it as a twin on which it was never made.
 */
public final class RefusedTest {
    private static final int BAD = -1;
    private static final int FULL = -2;
    private static final int STATE = -4;
    private static final int SPENT = -6;
    private static final int NONE = -9;
    private static final int MOST = Integer.MAX_VALUE;
    private static final int LEAST = Integer.MIN_VALUE;

    /** Needs 0 and 3 can't both be met; 1 and 3 are musts, 2 and 4 lots. */
    private static final String VILLAGE =
        "h0h4h8 nA:0-1:2:3 mB:0-9:2:4 lC:4-12:3:5 wA:1-9:2:2 tC:20-25:1:6";

    private final Supplier<CoatBetween> maker;
    private final String of;

    private RefusedTest(String of, Supplier<CoatBetween> maker) {
        this.of = of;
        this.maker = maker;
    }

    public static void main(String[] args) {
        RefusedTest usual = new RefusedTest("usual: ", RefusedTest::usual);
        rows(usual);
        texts(usual);
        village(usual);
        orders(usual);
        sets(usual);
        rulesAndCoats(usual);
        chances(usual);
        deals(usual);
        thingsAndTracks(usual);
        images(usual);
        counts(usual);
        full(new RefusedTest("full: ", RefusedTest::full));
        eight(new RefusedTest("eight houses: ", RefusedTest::eight));
        nothing(new RefusedTest("new: ", CoatBetween::new));
        noPlan(new RefusedTest("no plan: ", RefusedTest::noPlan));
        Check.end();
    }

    // ---- the objects

    /** Rows 0 of no place, 1 an order, 2 of 60, 3 parts, 4 an image; 5 is missing. TEXTS 0, 1 are missing. */
    private static CoatBetween usual() {
        CoatBetween x = Check.village(VILLAGE);
        x.chance(2, 5);
        x.start(1);
        x.deal(0, 0, 0, 50);
        x.deal(0, 1, 0, 20);
        x.deal(1, 0, 2, 9);
        x.deal(3, 2, 1, 8);
        x.pocket(1, 10);
        x.pocket(2, 20);
        x.pocket(1, 30);
        x.track(1, 3);
        x.track(2, 9);
        x.row(0, 0);
        Check.lay(x, 1, 0, 1, 2);
        x.row(2, 60);
        x.lay(2, 59, -8);
        Check.lay(x, 3, 5, 99, 0);
        x.image(4);
        Check.write(x, 2, "vb");
        x.keep(3);
        x.lay(2, 0, 4321);
        x.at(2, 0);
        x.tear(5);
        return x;
    }

    private static CoatBetween full() {
        CoatBetween x = Check.village("h0h4h15");
        for (int i = 0; i < 16; i++) {
            x.deal(i == 5 ? 1 : 0, 1, 2, 10 + i);
        }
        for (int i = 0; i < 12; i++) {
            x.pocket(i % 2, i);
            x.track(i % 2, 2 * i);
        }
        return x;
    }

    private static CoatBetween eight() {
        CoatBetween x = Check.village("h0h2h4h6h8h10h12h14");
        x.deal(0, 7, 0, 99);
        x.deal(1, 7, 6, 98);
        Check.lay(x, 0, 1, 2, 3);
        x.row(1, 60);
        return x;
    }

    private static CoatBetween noPlan() {
        CoatBetween x = Check.village("h0h15mA:0-1:2:1mB:2-4:3:1nA:0-2:2:7");
        Check.lay(x, 0, 2);
        Check.lay(x, 1, 7, 7, 7);
        x.at(1, 2);
        return x;
    }

    // ---- what is looked at behind a call

    private void bad(String call, ToIntFunction<CoatBetween> made) {
        refused(call, made, BAD);
    }

    private void refused(String call, ToIntFunction<CoatBetween> made, int want) {
        behind(call, made, want, 0);
    }

    private void found(String call, ToIntFunction<CoatBetween> made, int finding) {
        behind(call, made, CoatBetween.FINDING, finding);
    }

    private void behind(String call, ToIntFunction<CoatBetween> made, int want, int finding) {
        CoatBetween x = maker.get();
        Check.unchanged(x, of + call, () -> made.applyAsInt(x), want, finding);
        Check.unchanged(x, of + call + " once more", () -> made.applyAsInt(x), want, finding);
        CoatBetween twin = maker.get();
        List<Long> got = answers(x);
        List<Long> due = answers(twin);
        for (int i = 0; i < due.size(); i++) {
            Check.due(of + call + ", then answer " + i, got.get(i), due.get(i));
        }
    }

    /** All that an object can tell, and what it answers while it is used up. */
    private static List<Long> answers(CoatBetween x) {
        List<Long> all = new ArrayList<>();
        Consumer<Number> told = number -> {
            all.add(number.longValue());
            all.add((long) x.asked());
        };
        told.accept(x.digest());
        told.accept(x.upper());
        told.accept(x.lower());
        for (int r = 0; r < 6; r++) {
            told.accept(x.at(r, 0));
            told.accept(x.begins(r, 1));
            told.accept(x.order(r));
        }
        told.accept(x.sets());
        told.accept(x.best());
        told.accept(x.costs(0));
        told.accept(x.orders(7));
        told.accept(x.worn(3));
        told.accept(x.can(7));
        told.accept(x.mends(1, 0));
        told.accept(x.second(1));
        told.accept(x.two(0, 1));
        told.accept(x.wise());
        told.accept(x.rule(2, 0));
        told.accept(x.first(6, 5));
        told.accept(x.odds());
        told.accept(x.call(77));
        for (int watch = 0; watch < 28; watch += 3) {
            told.accept(x.could(watch));
        }
        usedUp(x, told);
        return all;
    }

    private static void usedUp(CoatBetween x, Consumer<Number> told) {
        told.accept(x.liar());
        told.accept(x.track(0, 0));
        told.accept(x.rich());
        told.accept(x.deal(4, 2, 0, 1));
        told.accept(x.deal(2, 1, 0, 1));
        for (int n = x.count(3) - 1; n >= 0; n--) {
            told.accept(x.undo(n));
            told.accept(x.owes(2, 1));
            told.accept(x.owes(2, 0));
            told.accept(x.house(0));
            told.accept(x.house(1));
        }
        told.accept(x.pocket(0, 7));
        for (int i = 0; i < 13; i++) {
            told.accept(x.find(i % 3));
        }
        told.accept(x.on(4));
        told.accept(x.forget(1));
        told.accept(x.start(0));
        told.accept(x.chance(2, 1));
        told.accept(x.copy(1, 0, 2, 1, 2));
        told.accept(x.village(3));
        told.accept(x.digest());
    }

    // ---- 1 rows, texts, villages

    private static void rows(RefusedTest on) {
        for (int r : new int[] {-1, 6, MOST, LEAST}) {
            on.bad("row(" + r + ", 1)", x -> x.row(r, 1));
            on.bad("row(" + r + ", -1)", x -> x.row(r, -1));
            on.bad("lay(" + r + ", 0, 1)", x -> x.lay(r, 0, 1));
            on.bad("at(" + r + ", 0)", x -> x.at(r, 0));
            on.bad("tear(" + r + ")", x -> x.tear(r));
            on.bad("mean(" + r + ")", x -> x.mean(r));
            on.bad("copy(" + r + ", 0, 1, 0, -1)", x -> x.copy(r, 0, 1, 0, -1));
            on.bad("copy(1, 0, " + r + ", 0, -1)", x -> x.copy(1, 0, r, 0, -1));
            on.bad("copy(5, 0, " + r + ", 0, 1)", x -> x.copy(5, 0, r, 0, 1));
        }
        for (int r : new int[] {0, 2, 5}) {
            on.bad("row(" + r + ", 61)", x -> x.row(r, 61));
            on.bad("row(" + r + ", MOST)", x -> x.row(r, MOST));
            on.found("row(" + r + ", -1)", x -> x.row(r, -1), 5);
            on.found("row(" + r + ", LEAST)", x -> x.row(r, LEAST), 5);
        }
        for (int i : new int[] {-1, 0, 60, MOST, LEAST}) {
            on.found("lay(5, " + i + ", 1)", x -> x.lay(5, i, 1), 1);
            on.found("at(5, " + i + ")", x -> x.at(5, i), 1);
            on.found("lay(0, " + i + ", 1)", x -> x.lay(0, i, 1), 2);
            on.found("at(0, " + i + ")", x -> x.at(0, i), 2);
        }
        for (int i : new int[] {-1, 60, MOST, LEAST}) {
            on.found("lay(2, " + i + ", 1)", x -> x.lay(2, i, 1), 2);
            on.found("at(2, " + i + ")", x -> x.at(2, i), 2);
        }
        on.found("tear(5)", x -> x.tear(5), 1);
        on.found("mean(5)", x -> x.mean(5), 1);
        on.found("mean(0)", x -> x.mean(0), 4);
        copies(on);
    }

    private static void copies(RefusedTest on) {
        on.found("copy, fewer than none ahead of all else", x -> x.copy(5, -1, 5, -1, -1), 5);
        on.found("copy of LEAST", x -> x.copy(1, 0, 2, 0, LEAST), 5);
        on.found("copy from none", x -> x.copy(5, 0, 1, 0, 1), 1);
        on.found("copy to none", x -> x.copy(1, 0, 5, 0, 1), 1);
        on.found("copy from none, beyond", x -> x.copy(5, 99, 1, 99, 99), 1);
        on.found("copy to none, beyond", x -> x.copy(1, 99, 5, 99, 99), 1);
        on.found("copy of one from an empty one", x -> x.copy(0, 0, 1, 0, 1), 2);
        on.found("copy of one to an empty one", x -> x.copy(1, 0, 0, 0, 1), 2);
        on.found("copy of one too many", x -> x.copy(1, 0, 2, 0, 4), 2);
        on.found("copy to one too few", x -> x.copy(2, 0, 1, 0, 4), 2);
        on.found("copy of 61", x -> x.copy(2, 0, 2, 0, 61), 2);
        on.found("copy from behind", x -> x.copy(2, 59, 2, 0, 2), 2);
        on.found("copy to behind", x -> x.copy(2, 0, 2, 59, 2), 2);
        on.found("copy of none from below 0", x -> x.copy(2, -1, 2, 0, 0), 2);
        on.found("copy of none to below 0", x -> x.copy(2, 0, 2, -1, 0), 2);
        on.found("copy of none from above its size", x -> x.copy(1, 4, 2, 0, 0), 2);
        on.found("copy of none to above its size", x -> x.copy(2, 0, 1, 4, 0), 2);
        on.found("copy of one from below 0", x -> x.copy(2, -1, 2, 0, 1), 2);
        on.found("copy of one to below 0", x -> x.copy(2, 0, 2, -1, 1), 2);
        on.found("copy from MOST", x -> x.copy(2, MOST, 2, 0, 1), 2);
        on.found("copy to MOST", x -> x.copy(2, 0, 2, MOST, 1), 2);
        on.found("copy of MOST from MOST", x -> x.copy(2, MOST, 2, MOST, MOST), 2);
        on.found("copy of MOST", x -> x.copy(2, 1, 2, 1, MOST), 2);
        on.found("copy of MOST from LEAST", x -> x.copy(2, LEAST, 2, 0, MOST), 2);
    }

    private static void texts(RefusedTest on) {
        for (int t : new int[] {-1, 4, MOST, LEAST}) {
            on.bad("text(" + t + ", 1)", x -> x.text(t, 1));
            on.bad("text(" + t + ", -1)", x -> x.text(t, -1));
            on.bad("put(" + t + ", 0, 104)", x -> x.put(t, 0, 104));
            on.bad("fault(" + t + ")", x -> x.fault(t));
            on.bad("village(" + t + ")", x -> x.village(t));
            on.bad("rule(" + t + ", 1)", x -> x.rule(t, 1));
        }
        for (int t : new int[] {0, 2, 3}) {
            on.bad("text(" + t + ", 121)", x -> x.text(t, 121));
            on.bad("text(" + t + ", MOST)", x -> x.text(t, MOST));
            on.found("text(" + t + ", -1)", x -> x.text(t, -1), 5);
            on.found("text(" + t + ", LEAST)", x -> x.text(t, LEAST), 5);
        }
        for (int i : new int[] {-1, 0, 2, MOST}) {
            on.found("put(0, " + i + ", 104)", x -> x.put(0, i, 104), 1);
        }
        for (int i : new int[] {-1, 2, 120, MOST, LEAST}) {
            on.found("put(2, " + i + ", 104)", x -> x.put(2, i, 104), 2);
        }
        on.found("fault(0)", x -> x.fault(0), 1);
        on.found("village(0)", x -> x.village(0), 1);
        on.refused("village(2), a fault", x -> x.village(2), STATE);
    }

    private static void village(RefusedTest on) {
        for (int h : new int[] {-1, 3, 8, MOST, LEAST}) {
            on.bad("house(" + h + ")", x -> x.house(h));
            on.bad("start(" + h + ")", x -> x.start(h));
            on.bad("carry(0, " + h + ")", x -> x.carry(0, h));
            on.bad("carry(" + h + ", 0)", x -> x.carry(h, 0));
        }
        for (int i : new int[] {-1, 5, 8, MOST, LEAST}) {
            on.bad("need(" + i + ", 0)", x -> x.need(i, 0));
            on.bad("mark(" + i + ", 1)", x -> x.mark(i, 1));
            on.bad("chance(" + i + ", 1)", x -> x.chance(i, 1));
        }
        for (int what : new int[] {-1, 6, MOST, LEAST}) {
            on.bad("need(2, " + what + ")", x -> x.need(2, what));
            on.bad("mark(2, " + what + ")", x -> x.mark(2, what));
        }
        on.bad("mark(0, 0)", x -> x.mark(0, 0));
        on.bad("mark(2, 0)", x -> x.mark(2, 0));
        for (int p : new int[] {-1, 13, MOST, LEAST}) {
            on.bad("chance(2, " + p + ")", x -> x.chance(2, p));
            on.bad("chance(0, " + p + "), no lot", x -> x.chance(0, p));
        }
        int[][] unlike = {{0, 1}, {0, 2}, {0, 3}, {0, 4}, {0, 5}, {1, 2}, {1, 3}, {1, 4}, {1, 5}, {2, 1}, {2, 3},
            {2, 4}, {2, 5}, {3, 2}, {3, 4}, {3, 5}, {4, 1}, {4, 3}, {4, 4}};
        for (int[] of : unlike) {
            on.found("mark(" + of[0] + ", " + of[1] + ")", x -> x.mark(of[0], of[1]), 3);
        }
        for (int i : new int[] {0, 1, 3}) {
            on.found("chance(" + i + ", 0)", x -> x.chance(i, 0), 3);
        }
    }

    // ---- 2 orders, plans

    private static void orders(RefusedTest on) {
        for (int r : new int[] {-1, 6, MOST, LEAST}) {
            on.bad("order(" + r + ")", x -> x.order(r));
            on.bad("begins(" + r + ", 0)", x -> x.begins(r, 0));
        }
        for (int i : new int[] {-1, 8, MOST, LEAST}) {
            on.bad("begins(1, " + i + ")", x -> x.begins(1, i));
            on.bad("begins(5, " + i + "), no row", x -> x.begins(5, i));
            on.bad("begins(2, " + i + "), too long", x -> x.begins(2, i));
        }
        on.found("order(5)", x -> x.order(5), 1);
        on.found("order(2), too long and no needs", x -> x.order(2), 5);
        on.found("order(3), no need", x -> x.order(3), 3);
        on.found("begins(5, 7), no row", x -> x.begins(5, 7), 1);
        on.found("begins(2, 0), too long and no needs", x -> x.begins(2, 0), 5);
        on.found("begins(3, 0), no need behind it", x -> x.begins(3, 0), 3);
        on.found("begins(3, 7), no need ahead of no place", x -> x.begins(3, 7), 3);
        on.found("begins(1, 3)", x -> x.begins(1, 3), 2);
        on.found("begins(1, 7)", x -> x.begins(1, 7), 2);
        on.found("begins(0, 0)", x -> x.begins(0, 0), 2);
        on.refused("begins(1, 0), too late", x -> x.begins(1, 0), NONE);
        on.refused("begins(1, 2), behind it", x -> x.begins(1, 2), NONE);
        Supplier<CoatBetween> twice = () -> {
            CoatBetween x = usual();
            Check.lay(x, 1, 4, 2, 4);
            Check.lay(x, 2, 0, 1, 2, 3, 4, 4);
            Check.lay(x, 3, 0, 1, 2, 3, 5);
            return x;
        };
        RefusedTest wrong = new RefusedTest("wrong orders: ", twice);
        wrong.found("order(1), twice", x -> x.order(1), 3);
        wrong.found("begins(1, 0), twice", x -> x.begins(1, 0), 3);
        wrong.found("order(2), one too many, twice", x -> x.order(2), 5);
        wrong.found("order(3), the need behind the last", x -> x.order(3), 3);
    }

    private static void sets(RefusedTest on) {
        for (int set : new int[] {-1, 32, 255, 256, MOST, LEAST}) {
            on.bad("can(" + set + ")", x -> x.can(set));
            on.bad("first(" + set + ", 1)", x -> x.first(set, 1));
            on.bad("orders(" + set + ")", x -> x.orders(set));
            on.bad("worn(" + set + ")", x -> x.worn(set));
            on.bad("mends(" + set + ", 0)", x -> x.mends(set, 0));
        }
        for (int r : new int[] {-1, 6, MOST, LEAST}) {
            on.bad("first(2, " + r + ")", x -> x.first(2, r));
            on.bad("first(9, " + r + "), that can't be met", x -> x.first(9, r));
        }
        on.refused("can(9)", x -> x.can(9), NONE);
        on.refused("worn(9)", x -> x.worn(9), NONE);
        for (int r : new int[] {0, 1, 2, 5}) {
            on.refused("first(9, " + r + ")", x -> x.first(9, r), NONE);
        }
        for (int i : new int[] {-1, 5, 8, MOST, LEAST}) {
            on.bad("costs(" + i + ")", x -> x.costs(i));
        }
    }

    // ---- 3 rules, second coats, two in it, mendings

    private static void rulesAndCoats(RefusedTest on) {
        for (int r : new int[] {-1, 6, MOST, LEAST}) {
            on.bad("rule(2, " + r + ")", x -> x.rule(2, r));
            on.bad("rule(0, " + r + "), no text", x -> x.rule(0, r));
            on.bad("rule(3, " + r + "), no rule", x -> x.rule(3, r));
        }
        on.found("rule(0, 1)", x -> x.rule(0, 1), 1);
        for (int r : new int[] {0, 1, 5}) {
            on.refused("rule(3, " + r + "), no rule", x -> x.rule(3, r), STATE);
        }
        for (int h : new int[] {-1, 3, 8, MOST, LEAST}) {
            on.bad("second(" + h + ")", x -> x.second(h));
            on.bad("mends(0, " + h + ")", x -> x.mends(0, h));
            on.bad("mends(9, " + h + "), that can't be met", x -> x.mends(9, h));
        }
        on.refused("mends(9, 0)", x -> x.mends(9, 0), NONE);
        for (int i : new int[] {-1, 5, 8, MOST, LEAST}) {
            on.bad("two(0, " + i + ")", x -> x.two(0, i));
            on.bad("two(" + i + ", 0)", x -> x.two(i, 0));
            on.bad("two(" + i + ", " + i + ")", x -> x.two(i, i));
        }
        on.bad("two(0, 0)", x -> x.two(0, 0));
        on.bad("two(4, 4)", x -> x.two(4, 4));
        on.refused("two(0, 2), not as long", x -> x.two(0, 2), NONE);
        on.refused("two(0, 1), a carry", x -> x.two(0, 1), NONE);
        on.refused("two(0, 3), no plan", x -> x.two(0, 3), NONE);
    }

    // ---- 4 chances

    private static void chances(RefusedTest on) {
        for (int seed : new int[] {0, -1, 2147483647, LEAST}) {
            on.bad("call(" + seed + ")", x -> x.call(seed));
        }
        for (int r : new int[] {-1, 6, MOST, LEAST}) {
            on.bad("keep(" + r + ")", x -> x.keep(r));
        }
        on.found("keep(5)", x -> x.keep(5), 1);
        on.found("keep(0), too few", x -> x.keep(0), 5);
        on.found("keep(2), too many, one below 0", x -> x.keep(2), 5);
        Supplier<CoatBetween> parts = () -> {
            CoatBetween x = usual();
            Check.lay(x, 0, 0, 0, 0);
            Check.lay(x, 1, 0, 0, 100);
            Check.lay(x, 2, 1, -1, 0);
            Check.lay(x, 3, 0, 0);
            Check.lay(x, 4, 100, -1, 0, 0);
            return x;
        };
        RefusedTest wrong = new RefusedTest("wrong parts: ", parts);
        wrong.found("keep(0), all are 0", x -> x.keep(0), 4);
        wrong.found("keep(1), 100", x -> x.keep(1), 3);
        wrong.found("keep(2), -1, all together 0", x -> x.keep(2), 3);
        wrong.found("keep(3), too few, all are 0", x -> x.keep(3), 5);
        wrong.found("keep(4), too many, no parts", x -> x.keep(4), 5);
    }

    // ---- 5 hours, a pocket, tracks

    private static void deals(RefusedTest on) {
        for (int kind : new int[] {-1, 5, MOST, LEAST}) {
            on.bad("deal(" + kind + ", 0, 1, 1)", x -> x.deal(kind, 0, 1, 1));
        }
        for (int kind = 0; kind <= 4; kind++) {
            int of = kind;
            for (int h : new int[] {-1, 3, MOST, LEAST}) {
                on.bad("deal(" + of + ", " + h + ", 1, 1)", x -> x.deal(of, h, 1, 1));
                if (of != 0) {
                    on.bad("deal(" + of + ", 0, " + h + ", 1)", x -> x.deal(of, 0, h, 1));
                }
            }
            for (int n : new int[] {0, -1, 100, MOST, LEAST}) {
                on.bad("deal(" + of + ", 0, 1, " + n + ")", x -> x.deal(of, 0, 1, n));
            }
            if (of != 0) {
                on.bad("deal(" + of + ", 0, 0, 1), one house", x -> x.deal(of, 0, 0, 1));
            }
        }
        on.refused("lent, one more than there is", x -> x.deal(1, 0, 1, 42), STATE);
        on.refused("sold, one more than there is", x -> x.deal(2, 0, 1, 42), STATE);
        on.refused("stolen, one more than there is", x -> x.deal(3, 1, 0, 42), STATE);
        on.refused("given back, one more than is owed", x -> x.deal(4, 2, 0, 10), STATE);
        on.refused("given back, one who is not owed", x -> x.deal(4, 0, 1, 1), STATE);
        on.refused("given back to one who owes", x -> x.deal(4, 0, 2, 9), STATE);
        Supplier<CoatBetween> poor = () -> {
            CoatBetween x = usual();
            x.deal(2, 2, 0, 12);
            return x;
        };
        RefusedTest wrong = new RefusedTest("a poor house: ", poor);
        wrong.refused("given back, one more than there is", x -> x.deal(4, 2, 1, 6), STATE);
        for (int n : new int[] {-1, 5, MOST, LEAST}) {
            on.bad("undo(" + n + ")", x -> x.undo(n));
        }
        for (int h : new int[] {-1, 3, MOST, LEAST}) {
            on.bad("owes(0, " + h + ")", x -> x.owes(0, h));
            on.bad("owes(" + h + ", 0)", x -> x.owes(h, 0));
            on.bad("owes(" + h + ", " + h + ")", x -> x.owes(h, h));
        }
        on.bad("owes(0, 0)", x -> x.owes(0, 0));
        on.bad("owes(2, 2)", x -> x.owes(2, 2));
    }

    private static void thingsAndTracks(RefusedTest on) {
        for (int h : new int[] {-1, 3, MOST, LEAST}) {
            on.bad("pocket(" + h + ", 1)", x -> x.pocket(h, 1));
            on.bad("find(" + h + ")", x -> x.find(h));
            on.bad("track(" + h + ", 1)", x -> x.track(h, 1));
        }
        for (int thing : new int[] {-1, 100, MOST, LEAST}) {
            on.bad("pocket(0, " + thing + ")", x -> x.pocket(0, thing));
        }
        on.found("find(0), none of hers", x -> x.find(0), 1);
        for (int watch : new int[] {-1, 28, MOST, LEAST}) {
            on.bad("track(0, " + watch + ")", x -> x.track(0, watch));
            on.bad("could(" + watch + ")", x -> x.could(watch));
        }
        for (int n : new int[] {-1, 3, MOST, LEAST}) {
            on.bad("forget(" + n + ")", x -> x.forget(n));
        }
        on.refused("liar()", CoatBetween::liar, NONE);
    }

    private static void images(RefusedTest on) {
        for (int r : new int[] {-1, 6, MOST, LEAST}) {
            on.bad("image(" + r + ")", x -> x.image(r));
            on.bad("on(" + r + ")", x -> x.on(r));
        }
        on.found("on(5)", x -> x.on(5), 1);
        on.found("on(0), too few", x -> x.on(0), 5);
        on.found("on(1), too few", x -> x.on(1), 5);
        on.found("on(2), too many", x -> x.on(2), 5);
        for (int place = 0; place < 9; place++) {
            int i = place;
            Supplier<CoatBetween> below = () -> {
                CoatBetween x = usual();
                x.lay(4, i, -1);
                return x;
            };
            Supplier<CoatBetween> above = () -> {
                CoatBetween x = usual();
                x.lay(4, i, 10000);
                return x;
            };
            new RefusedTest("place " + i + " is -1: ", below).found("on(4)", x -> x.on(4), 3);
            new RefusedTest("place " + i + " is 10000: ", above).found("on(4)", x -> x.on(4), 3);
        }
    }

    private static void counts(RefusedTest on) {
        for (int what : new int[] {-1, 8, MOST, LEAST}) {
            on.bad("count(" + what + ")", x -> x.count(what));
        }
        for (int f : new int[] {-1, 0, 6, MOST, LEAST}) {
            on.bad("findings(" + f + ")", x -> x.findings(f));
        }
    }

    // ---- objects at their edges

    private static void full(RefusedTest on) {
        on.refused("a deal", x -> x.deal(0, 0, 0, 1), FULL);
        on.refused("a deal of another kind", x -> x.deal(1, 1, 0, 1), FULL);
        on.refused("a deal, not now", x -> x.deal(1, 0, 1, 1), STATE);
        on.refused("a deal, more than owed", x -> x.deal(4, 1, 0, 1), STATE);
        on.bad("a deal, bad", x -> x.deal(0, 0, 0, 0));
        on.bad("a deal, one house", x -> x.deal(2, 0, 0, 99));
        on.refused("a thing", x -> x.pocket(2, 1), FULL);
        on.bad("a thing, bad", x -> x.pocket(2, 100));
        on.bad("a thing of none", x -> x.pocket(3, 1));
        on.found("find(2), none of hers in a full pocket", x -> x.find(2), 1);
        on.refused("a track", x -> x.track(0, 0), FULL);
        on.bad("a track, bad", x -> x.track(0, 28));
        on.bad("a track of none", x -> x.track(3, 0));
        on.bad("undo(17)", x -> x.undo(17));
        on.bad("forget(13)", x -> x.forget(13));
    }

    private static void eight(RefusedTest on) {
        for (int r : new int[] {0, 1, 5}) {
            on.refused("image(" + r + ")", x -> x.image(r), SPENT);
            on.refused("on(" + r + ")", x -> x.on(r), SPENT);
        }
        on.bad("image(6)", x -> x.image(6));
        on.bad("on(6)", x -> x.on(6));
        on.bad("house(8)", x -> x.house(8));
        on.bad("owes(7, 8)", x -> x.owes(7, 8));
    }

    private static void nothing(RefusedTest on) {
        on.refused("rich()", CoatBetween::rich, STATE);
        on.refused("liar()", CoatBetween::liar, NONE);
        on.bad("house(0)", x -> x.house(0));
        on.bad("start(0)", x -> x.start(0));
        on.bad("carry(0, 0)", x -> x.carry(0, 0));
        on.bad("need(0, 0)", x -> x.need(0, 0));
        on.bad("can(1)", x -> x.can(1));
        on.bad("second(0)", x -> x.second(0));
        on.bad("mends(0, 0)", x -> x.mends(0, 0));
        on.bad("deal(0, 0, 0, 1)", x -> x.deal(0, 0, 0, 1));
        on.bad("undo(1)", x -> x.undo(1));
        on.bad("pocket(0, 0)", x -> x.pocket(0, 0));
        on.bad("find(0)", x -> x.find(0));
        on.bad("track(0, 0)", x -> x.track(0, 0));
        on.bad("forget(1)", x -> x.forget(1));
        for (int r = 0; r < 6; r++) {
            int of = r;
            on.found("tear(" + of + ")", x -> x.tear(of), 1);
            on.found("order(" + of + ")", x -> x.order(of), 1);
            on.found("keep(" + of + ")", x -> x.keep(of), 1);
            on.found("on(" + of + ")", x -> x.on(of), 1);
        }
        for (int t = 0; t < 4; t++) {
            int of = t;
            on.found("fault(" + of + ")", x -> x.fault(of), 1);
            on.found("village(" + of + ")", x -> x.village(of), 1);
            on.found("rule(" + of + ", 0)", x -> x.rule(of, 0), 1);
        }
    }

    private static void noPlan(RefusedTest on) {
        on.refused("best()", CoatBetween::best, NONE);
        on.refused("costs(0), a plan only without it", x -> x.costs(0), NONE);
        on.refused("costs(2), none without it", x -> x.costs(2), NONE);
        on.refused("second(0)", x -> x.second(0), NONE);
        on.refused("two(0, 2), no plan", x -> x.two(0, 2), NONE);
        on.refused("first(3, 1)", x -> x.first(3, 1), NONE);
        on.refused("mends(3, 0)", x -> x.mends(3, 0), NONE);
    }
}
