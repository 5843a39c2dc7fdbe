/** Promises 18 to 31 in small villages that can be worked out by hand, and their refusals. */
public final class OrdersTest {
    /** B is one carry from A, C two from A and one from B. */
    private static final String SMALL = "h0h4h8 nA:0-5:2:3 mB:0-6:2:4 nC:4-9:3:5 wA:8-12:2:2";

    public static void main(String[] args) {
        orderAndBegins();
        orderRefused();
        begunAsTold();
        sets();
        setsRefused();
        firstAndWorn();
        costs();
        rules();
        ruleRefused();
        weddingsByRule();
        wise();
        second();
        two();
        twoAsTold();
        mends();
        noHouses();
        Check.end();
    }

    private static void orderAndBegins() {
        CoatBetween x = Check.village(SMALL);
        Check.lay(x, 0, 0, 1, 2);
        Check.due("order of 0, 1, 2", x.order(0), 3);
        Check.due("gone", x.asked(), 9);
        Check.due("begins(0, 0)", x.begins(0, 0), 0);
        Check.due("begins(0, 1)", x.begins(0, 1), 3);
        Check.due("begins(0, 2)", x.begins(0, 2), 6);
        Check.lay(x, 0, 0, 1, 2, 3);
        Check.due("order, no way back to the wedding", x.order(0), 3);
        Check.due("gone", x.asked(), 9);
        Check.none(x, "begins(0, 3)", () -> x.begins(0, 3));
        Check.lay(x, 0, 3, 0, 1);
        Check.due("order, too late", x.order(0), 1);
        Check.due("gone", x.asked(), 10);
        Check.due("begins(0, 0)", x.begins(0, 0), 8);
        Check.none(x, "begins(0, 1)", () -> x.begins(0, 1));
        Check.none(x, "begins(0, 2)", () -> x.begins(0, 2));
        x.row(0, 0);
        Check.due("order of none", x.order(0), 0);
        Check.due("gone", x.asked(), 0);
        x.start(2);
        Check.lay(x, 0, 0);
        Check.due("order from C", x.order(0), 1);
        Check.due("gone", x.asked(), 4);
        Check.due("begins", x.begins(0, 0), 2);
    }

    private static void orderRefused() {
        CoatBetween x = Check.village(SMALL);
        Check.lay(x, 1, 0, 0, 0, 0, 0);
        Check.lay(x, 2, 0, 4);
        Check.lay(x, 3, -1);
        Check.lay(x, 4, 2, 1, 2);
        Check.lay(x, 5, 1, 2);
        Check.bad(x, "order(6)", () -> x.order(6));
        Check.bad(x, "order(-1)", () -> x.order(-1));
        Check.found(x, "order(0)", () -> x.order(0), 1);
        Check.found(x, "order(1)", () -> x.order(1), 5);
        Check.found(x, "order(2)", () -> x.order(2), 3);
        Check.found(x, "order(3)", () -> x.order(3), 3);
        Check.found(x, "order(4)", () -> x.order(4), 3);
        Check.bad(x, "begins(6, 0)", () -> x.begins(6, 0));
        Check.bad(x, "begins(0, 8)", () -> x.begins(0, 8));
        Check.bad(x, "begins(0, -1)", () -> x.begins(0, -1));
        Check.found(x, "begins(0, 0)", () -> x.begins(0, 0), 1);
        Check.found(x, "begins(1, 7)", () -> x.begins(1, 7), 5);
        Check.found(x, "begins(2, 7)", () -> x.begins(2, 7), 3);
        Check.found(x, "begins(3, 1)", () -> x.begins(3, 1), 3);
        Check.found(x, "begins(4, 0)", () -> x.begins(4, 0), 3);
        Check.found(x, "begins(5, 2)", () -> x.begins(5, 2), 2);
        Check.found(x, "begins(5, 7)", () -> x.begins(5, 7), 2);
    }

    private static void begun(String text, int want) {
        CoatBetween x = Check.village(text);
        Check.lay(x, 0, 0, 1);
        Check.due("begins in " + text, x.begins(0, 1), want);
        Check.due("order in " + text, x.order(0), want < 0 ? 1 : 2);
    }

    private static void begunAsTold() {
        begun("h0nA:0-9:3:1nA:2-9:2:1", 3);
        begun("h0nA:0-9:3:1nA:5-9:2:1", 5);
        begun("h0nA:0-9:3:1mA:2-4:2:1", 3);
        begun("h0nA:0-9:3:1lA:2-3:2:1", -9);
        begun("h0nA:0-9:3:1wA:2-9:2:1", -9);
        begun("h0nA:0-9:3:1wA:3-9:2:1", 3);
        begun("h0nA:0-9:3:1wA:4-9:2:1", 4);
        begun("h0nA:0-9:3:1wA:4-4:2:1", -9);
        begun("h0nA:0-9:3:1fA:1-9:2:1", -9);
        begun("h0nA:0-9:3:1fA:2-9:2:1", 3);
        begun("h0nA:0-9:3:1fA:3-9:2:1", 3);
        begun("h0nA:0-9:3:1fA:2-3:2:1", -9);
        begun("h0nA:0-9:3:1tA:2-9:2:1", -9);
        begun("h0nA:0-9:3:1tA:3-9:2:1", 3);
        begun("h0h3nA:0-9:3:1nB:0-9:2:1", 3);
        begun("h0h4nA:0-9:3:1nB:0-9:2:1", 4);
        begun("h0h15nA:0-9:3:1nB:0-9:2:1", 6);
        begun("h0nA:0-9:3:1nA:26-27:2:1", 26);
    }

    private static void sets() {
        CoatBetween x = Check.village(SMALL);
        Check.due("can(0)", x.can(0), 0);
        Check.due("can(1)", x.can(1), 2);
        Check.due("can(2)", x.can(2), 3);
        Check.due("can(3)", x.can(3), 5);
        Check.due("can(4)", x.can(4), 7);
        Check.due("can(7)", x.can(7), 9);
        Check.due("can(8)", x.can(8), 10);
        Check.due("can(11)", x.can(11), 10);
        Check.due("can(12)", x.can(12), -9);
        Check.due("sets()", x.sets(), 12);
        Check.due("the greatest worth", x.asked(), 12);
        Check.due("orders(0)", x.orders(0), 1);
        Check.due("orders(3)", x.orders(3), 2);
        Check.due("orders(7)", x.orders(7), 1);
        Check.due("orders(12)", x.orders(12), 0);
        Check.none(x, "best()", () -> Check.village("h0h15mA:0-1:2:1mB:2-4:3:1").best());
        Check.due("best()", x.best(), 11);
        Check.due("its worth", x.asked(), 9);
        CoatBetween y = Check.village("h0nA:0-3:4:5nA:0-3:4:5nA:0-3:1:2nA:0-3:3:3");
        Check.due("the least bits of alike ones", y.best(), 1);
        Check.due("its worth", y.asked(), 5);
        CoatBetween z = Check.village("h0" + "nA:0-27:1:1".repeat(8));
        Check.due("orders(255)", z.orders(255), 40320);
        Check.due("sets()", z.sets(), 256);
    }

    private static void setsRefused() {
        CoatBetween x = Check.village(SMALL);
        for (int set : new int[] {-1, 16, 256, Integer.MAX_VALUE, Integer.MIN_VALUE}) {
            Check.bad(x, "can(" + set + ")", () -> x.can(set));
            Check.bad(x, "first(" + set + ", 0)", () -> x.first(set, 0));
            Check.bad(x, "orders(" + set + ")", () -> x.orders(set));
            Check.bad(x, "worn(" + set + ")", () -> x.worn(set));
            Check.bad(x, "mends(" + set + ", 0)", () -> x.mends(set, 0));
        }
        for (int need : new int[] {-1, 4, Integer.MAX_VALUE}) {
            Check.bad(x, "costs(" + need + ")", () -> x.costs(need));
            Check.bad(x, "two(0, " + need + ")", () -> x.two(0, need));
            Check.bad(x, "two(" + need + ", 0)", () -> x.two(need, 0));
        }
        Check.bad(x, "two(2, 2)", () -> x.two(2, 2));
        for (int house : new int[] {-1, 3, Integer.MIN_VALUE}) {
            Check.bad(x, "second(" + house + ")", () -> x.second(house));
            Check.bad(x, "mends(0, " + house + ")", () -> x.mends(0, house));
        }
        Check.bad(x, "first(0, 6)", () -> x.first(0, 6));
        Check.bad(x, "first(0, -1)", () -> x.first(0, -1));
        Check.none(x, "can(12)", () -> x.can(12));
        Check.none(x, "worn(12)", () -> x.worn(12));
        Check.none(x, "mends(12, 0)", () -> x.mends(12, 0));
        Check.none(x, "first(12, 0)", () -> x.first(12, 0));
        Check.due("no row came", x.count(6), 0);
    }

    private static void firstAndWorn() {
        CoatBetween x = Check.village(SMALL);
        Check.lay(x, 0, 9, 9, 9, 9, 9);
        Check.none(x, "first(12, 0)", () -> x.first(12, 0));
        Check.rowIs(x, "the row stays", 0, 9, 9, 9, 9, 9);
        Check.due("first(11, 0)", x.first(11, 0), 1);
        Check.rowIs(x, "first(11, 0)", 0, 0, 1, 3);
        Check.due("worn(11)", x.worn(11), 3 | 3 << 3 | 3 << 8);
        Check.due("first(0, 0)", x.first(0, 0), 1);
        Check.rowIs(x, "first(0, 0)", 0);
        Check.due("worn(0)", x.worn(0), 0);
        CoatBetween y = Check.village("h0nA:5-9:2:1nA:0-9:4:1nA:0-9:1:1");
        Check.due("first, not the soonest", y.first(7, 5), 1);
        Check.rowIs(y, "first, not the soonest", 5, 1, 0, 2);
        Check.due("worn then", y.worn(7), 0b1111 | 3 << 5 | 1 << 7);
        CoatBetween z = Check.village("h0nA:24-27:4:1");
        Check.due("worn to the end", z.worn(1), 15 << 24);
    }

    private static void costs() {
        CoatBetween x = Check.village("h0nA:0-3:4:9mA:2-4:2:1nA:0-1:2:5nA:20-27:1:4");
        Check.due("best()", x.best(), 14);
        Check.due("its worth", x.asked(), 10);
        Check.due("costs(0), not in the best", x.costs(0), 0);
        Check.due("costs(1), a must", x.costs(1), 4);
        Check.due("costs(2)", x.costs(2), 0);
        Check.due("costs(3)", x.costs(3), 0);
        Check.due("asked() stays", x.asked(), 10);
        CoatBetween y = Check.village("h0h15mA:0-1:2:1mB:2-4:3:1");
        Check.none(y, "costs(0) of no plan", () -> y.costs(0));
    }

    private static void rule(CoatBetween x, String letters, int worth, int... line) {
        Check.write(x, 0, letters);
        Check.due("rule " + letters, x.rule(0, 4), worth);
        Check.rowIs(x, "rule " + letters, 4, line);
    }

    private static final String RULED = "h0h8 nB:0-9:2:9 nA:0-5:4:3 mA:2-12:3:3 nB:0-7:2:1";

    private static void rules() {
        CoatBetween x = Check.village(RULED);
        x.house(1);
        rule(x, "v", 12, 0, 2);
        rule(x, "b", 13, 1, 3, 0);
        rule(x, "n", 13, 0, 3, 2);
        rule(x, "c", 6, 1, 2);
        rule(x, "m", 12, 2, 0);
        rule(x, "cn", 12, 2, 0);
        rule(x, "cv", 6, 1, 2);
        rule(x, "nb", 13, 3, 0, 2);
        rule(x, "nv", 13, 0, 3, 2);
        rule(x, "nnnb", 13, 3, 0, 2);
        rule(x, "vcmb", 12, 0, 2);
        x.start(1);
        rule(x, "c", 13, 0, 3, 2);
    }

    private static void weddingsByRule() {
        CoatBetween x = Check.village("h0 wA:2-5:2:1 fA:4-9:2:2 tA:9-10:2:3 nA:0-9:3:1 lA:0-27:1:1");
        rule(x, "m", 7, 0, 1, 2, 4);
        rule(x, "mv", 6, 1, 2, 4);
        rule(x, "b", 8, 0, 1, 3, 2, 4);
        rule(x, "nb", 7, 4, 0, 1, 2);
    }

    private static void ruleRefused() {
        CoatBetween x = Check.village(SMALL);
        Check.lay(x, 0, 7);
        Check.bad(x, "rule(4, 0)", () -> x.rule(4, 0));
        Check.bad(x, "rule(-1, 0)", () -> x.rule(-1, 0));
        Check.bad(x, "rule(0, 6)", () -> x.rule(0, 6));
        Check.bad(x, "rule(0, -1)", () -> x.rule(0, -1));
        Check.found(x, "rule(0, 0)", () -> x.rule(0, 0), 1);
        for (String text : new String[] {"", "vvvvv", " ", "v ", " v", "vx", "V", "xbncm", "vbncm", "vbn "}) {
            Check.write(x, 1, text);
            Check.refused(x, "rule '" + text + "'", () -> x.rule(1, 0), -4);
        }
        Check.rowIs(x, "the row stays", 0, 7);
    }

    private static void wise() {
        CoatBetween x = Check.village(RULED);
        Check.due("wise(), the first of alike ones", x.wise(), 1);
        Check.due("its worth", x.asked(), 13);
        CoatBetween y = Check.village("h0 nA:0-9:4:9 nA:0-3:4:9 nA:0-2:3:1");
        Check.due("wise(), of two letters", y.wise(), 6);
        Check.due("its worth", y.asked(), 18);
    }

    private static void second() {
        CoatBetween x = Check.village(SMALL);
        Check.due("second(2)", x.second(2), 14);
        Check.due("more than by one", x.asked(), 5);
        CoatBetween y = Check.village("h0h12 nB:0-1:2:7");
        Check.due("second(0)", y.second(0), 0);
        Check.due("more than by one", y.asked(), 0);
        Check.due("second(1)", y.second(1), 7);
        Check.due("more than by one", y.asked(), 7);
        y.start(1);
        Check.due("second(0)", y.second(0), 7);
        Check.due("more than by one", y.asked(), 0);
        CoatBetween z = Check.village("h0h15mA:0-1:2:1mB:2-4:3:1");
        Check.none(z, "second(0)", () -> z.second(0));
        Check.due("second(1)", z.second(1), 2);
        Check.due("all of it", z.asked(), 2);
    }

    private static void two() {
        CoatBetween x = Check.village("h0h3h8 nA:0-5:2:3 mB:4-9:2:4 wA:5-9:2:5 nC:0-9:2:1 nA:0-9:3:2");
        Check.none(x, "two with a carry", () -> x.two(0, 3));
        Check.none(x, "two unlike long", () -> x.two(0, 4));
        Check.none(x, "two beside a wedding", () -> x.two(0, 1));
        Check.none(x, "two that can't be met, a must", () -> x.two(0, 2));
        Check.due("two(1, 2), at the lesser one's house", x.two(1, 2), 15);
        Check.due("two(2, 1)", x.two(2, 1), 15);
        Check.due("asked() stays", x.asked(), 0);
    }

    private static void twoAsTold() {
        CoatBetween x = Check.village("h0nA:0-3:2:3nA:5-9:2:4nA:10-12:1:1");
        Check.due("two that can't be met, no must", x.two(0, 1), 1);
        CoatBetween y = Check.village("h0lA:0-9:2:3nA:5-9:2:4");
        Check.due("a lot and a need", y.two(1, 0), 7);
        CoatBetween z = Check.village("h0tA:2-9:2:3wA:4-9:2:4nA:4-5:2:8");
        Check.due("a feast and a wedding, whenever they can", z.two(0, 1), 15);
        CoatBetween u = Check.village("h0fA:2-9:2:3nA:0-9:2:9nA:0-9:2:9nA:0-9:2:9nA:0-9:2:9nA:0-9:2:9nA:3-9:2:1");
        Check.due("a must, if either is one", u.two(0, 6), 40);
        CoatBetween v = Check.village("h0nA:3-9:2:1fA:2-9:2:3nA:0-9:2:9nA:0-9:2:9nA:0-9:2:9nA:0-9:2:9nA:0-9:2:9");
        Check.due("a must, if the greater is one", v.two(0, 1), 40);
    }

    private static void mends() {
        CoatBetween x = Check.village("h0h15 wA:3-27:4:1 wA:11-27:4:1 wA:19-27:4:1");
        Check.due("mends(7, 1)", x.mends(7, 1), 2);
        Check.due("mends(7, 0)", x.mends(7, 0), 8);
        Check.due("mends(6, 1)", x.mends(6, 1), 7);
        Check.due("mends(0, 1)", x.mends(0, 1), 8);
        x.start(1);
        Check.due("mends(7, 1) from B", x.mends(7, 1), 2);
        Check.due("mends(6, 1) from B", x.mends(6, 1), 8);
        CoatBetween y = Check.village("h0h15 wA:4-27:4:1 wA:10-27:4:1 wA:16-27:4:1 wA:22-25:4:1");
        Check.due("mends(15, 1)", y.mends(15, 1), 0);
        Check.due("mends(15, 0)", y.mends(15, 0), 8);
    }

    private static void noHouses() {
        CoatBetween x = new CoatBetween();
        Check.due("can(0)", x.can(0), 0);
        Check.due("sets()", x.sets(), 1);
        Check.due("best()", x.best(), 0);
        Check.due("orders(0)", x.orders(0), 1);
        Check.due("worn(0)", x.worn(0), 0);
        Check.due("first(0, 2)", x.first(0, 2), 1);
        Check.rowIs(x, "first(0, 2)", 2);
        Check.due("order(2)", x.order(2), 0);
        Check.found(x, "begins(2, 0)", () -> x.begins(2, 0), 2);
        rule(x, "v", 0);
        x.lay(2, 0, 0);
        Check.due("wise()", x.wise(), 0);
        Check.due("its worth", x.asked(), 0);
        Check.bad(x, "can(1)", () -> x.can(1));
        Check.bad(x, "costs(0)", () -> x.costs(0));
        Check.bad(x, "second(0)", () -> x.second(0));
        Check.bad(x, "two(0, 1)", () -> x.two(0, 1));
        Check.bad(x, "mends(0, 0)", () -> x.mends(0, 0));
    }
}
