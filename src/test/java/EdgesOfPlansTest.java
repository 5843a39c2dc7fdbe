/** Promises 18 to 34 at their edges: the first and the last watch, none and eight, all chances. */
public final class EdgesOfPlansTest {
    private static final String EIGHT = "h0nA:0-27:4:9nA:0-27:4:8nA:0-27:4:7nA:0-27:4:6"
        + "nA:0-27:4:5nA:0-27:4:4nA:0-27:3:3nA:0-27:1:2";

    public static void main(String[] args) {
        watches();
        eightNeeds();
        oneTooMany();
        weddingsFiresFeasts();
        firstOrders();
        bests();
        costs();
        rules();
        wiseNumbers();
        secondCoats();
        twoInIt();
        mendings();
        odds();
        calls();
        keeps();
        Check.end();
    }

    private static void endIs(String text, int set, int want) {
        CoatBetween x = Check.village(text);
        Check.due("can(" + set + ") in " + text, x.can(set), want);
        Check.due("orders(" + set + ") in " + text, x.orders(set) > 0 ? 1 : 0, want == -9 ? 0 : 1);
        Check.due("worn(" + set + ") in " + text, x.worn(set) == -9 ? 0 : 1, want == -9 ? 0 : 1);
        Check.due("first(" + set + ", 0) in " + text, x.first(set, 0), want == -9 ? -9 : 1);
    }

    private static void watches() {
        endIs("h0nA:0-0:1:1", 0, 0);
        endIs("h0nA:0-0:1:1", 1, 1);
        endIs("h0nA:0-0:2:1", 1, -9);
        endIs("h0nA:27-27:1:1", 1, 28);
        endIs("h0nA:27-27:2:1", 1, -9);
        endIs("h0nA:24-27:4:1", 1, 28);
        endIs("h0nA:25-27:4:1", 1, -9);
        endIs("h0h15nB:0-3:1:1", 1, 4);
        endIs("h0h15nB:0-3:2:1", 1, -9);
        endIs("h0h15nB:0-2:1:1", 1, -9);
        endIs("h15h0nA:9-12:4:1nB:0-27:1:1", 3, 13);
        endIs("h0nA:0-9:4:1nA:4-7:4:1", 3, 8);
        endIs("h0nA:0-9:4:1nA:4-7:4:1nA:7-8:1:1", 7, 9);
        endIs("h0h3nA:0-9:4:1nB:4-7:4:1", 3, 8);
        endIs("h0h4nA:0-9:4:1nB:4-7:4:1", 3, -9);
    }

    private static void eightNeeds() {
        CoatBetween x = Check.village(EIGHT);
        Check.due("can(255)", x.can(255), 28);
        Check.due("sets()", x.sets(), 256);
        Check.due("the greatest worth", x.asked(), 44);
        Check.due("best()", x.best(), 255);
        Check.due("orders(255)", x.orders(255), 40320);
        Check.due("worn(255)", x.worn(255), (1 << 28) - 1);
        Check.due("first(255, 0)", x.first(255, 0), 1);
        Check.rowIs(x, "first(255, 0)", 0, 0, 1, 2, 3, 4, 5, 6, 7);
        Check.due("order(0)", x.order(0), 8);
        Check.due("gone", x.asked(), 28);
        Check.due("begins(0, 7)", x.begins(0, 7), 27);
        Check.due("begins(0, 0)", x.begins(0, 0), 0);
        Check.due("mends(255, 0)", x.mends(255, 0), 0);
        x.text(0, 1);
        x.put(0, 0, 'n');
        Check.due("rule n", x.rule(0, 1), 44);
        Check.rowIs(x, "rule n", 1, 7, 6, 0, 1, 2, 3, 4, 5);
        Check.bad(x, "can(256)", () -> x.can(256));
        x.row(2, 9);
        Check.found(x, "order of nine", () -> x.order(2), 5);
    }

    private static void oneTooMany() {
        CoatBetween x = Check.village(EIGHT.replace(":1:2", ":2:2"));
        Check.due("can(255)", x.can(255), -9);
        Check.due("sets()", x.sets(), 255);
        Check.due("the greatest worth", x.asked(), 42);
        Check.due("best()", x.best(), 127);
        Check.due("orders(255)", x.orders(255), 0);
        Check.due("orders(127)", x.orders(127), 5040);
        Check.none(x, "worn(255)", () -> x.worn(255));
        Check.lay(x, 0, 7, 6, 5, 4, 3, 2, 1, 0);
        Check.due("order(0)", x.order(0), 7);
        Check.due("gone", x.asked(), 25);
        Check.none(x, "begins(0, 7)", () -> x.begins(0, 7));
    }

    private static void weddingsFiresFeasts() {
        for (char letter : new char[] {'w', 't'}) {
            endIs("h0" + letter + "A:0-9:1:1", 1, 1);
            endIs("h0h4" + letter + "B:0-9:1:1", 1, -9);
            endIs("h0h4" + letter + "B:1-9:1:1", 1, 2);
            endIs("h0h4" + letter + "B:2-9:1:1", 1, 3);
            endIs("h0" + letter + "A:27-27:1:1", 1, 28);
            endIs("h0" + letter + "A:26-27:3:1", 1, -9);
            endIs("h0" + letter + "A:5-7:3:1", 1, 8);
            endIs("h0" + letter + "A:5-6:3:1", 1, -9);
        }
        endIs("h0fA:0-9:1:1", 1, 1);
        endIs("h0h4fB:0-9:1:1", 1, 2);
        endIs("h0h8fB:0-9:1:1", 1, -9);
        endIs("h0h4fB:0-0:1:1", 1, -9);
        endIs("h0h4fB:0-1:1:1", 1, 2);
        endIs("h0fA:26-27:2:1", 1, 28);
        endIs("h0fA:27-27:1:1", 1, 28);
        endIs("h0nA:0-9:4:1fA:3-9:1:1", 3, 5);
        endIs("h0nA:0-3:4:1fA:3-9:1:1", 3, 5);
        endIs("h0nA:0-3:4:1fA:2-9:1:1", 3, -9);
        endIs("h0nA:0-3:4:1fA:3-3:1:1", 3, -9);
    }

    private static void firstOrders() {
        CoatBetween x = Check.village("h0nA:9-9:1:1nA:0-27:4:1nA:0-27:4:1");
        Check.lay(x, 5, 1, 2, 3, 4, 5, 6, 7, 8, 9);
        Check.due("first(7, 5)", x.first(7, 5), 1);
        Check.rowIs(x, "first(7, 5)", 5, 0, 1, 2);
        Check.due("worn then", x.worn(7), 0b11111111_1_000000000);
        Check.due("its end is not the least", x.can(7), 10);
        x.tear(5);
        Check.due("first(0, 5) where no row was", x.first(0, 5), 1);
        Check.due("a row of no place", x.count(6), 1);
        Check.found(x, "at(5, 0)", () -> x.at(5, 0), 2);
    }

    private static void bests() {
        CoatBetween none = Check.village("h0mA:0-1:2:1mA:1-2:2:1nA:0-27:1:9");
        none.house(0);
        none.need(2, 5);
        Check.none(none, "best() of no plan", none::best);
        Check.due("asked() stays", none.asked(), 9);
        CoatBetween alike = Check.village("h0nA:0-0:1:3nA:0-0:1:3nA:0-0:1:2nA:1-1:1:1nA:1-1:1:1");
        Check.due("the least bits of alike ones", alike.best(), 1 | 8);
        Check.due("its worth", alike.asked(), 4);
        CoatBetween must = Check.village("h0nA:0-0:1:9wA:0-0:1:1");
        Check.due("a must ahead of worth", must.best(), 2);
        Check.due("its worth", must.asked(), 1);
        Check.due("sets() has those without a must", must.sets(), 3);
        Check.due("the greatest worth of sets", must.asked(), 9);
    }

    private static void costs() {
        CoatBetween x = Check.village("h0nA:0-0:1:9fA:0-0:1:1nA:0-0:1:4");
        Check.due("costs(0), not in the best", x.costs(0), 0);
        Check.due("costs(1), no must then", x.costs(1), 9);
        Check.due("costs(2)", x.costs(2), 0);
        CoatBetween only = Check.village("h0nA:0-0:1:9");
        Check.due("costs(0), the only one", only.costs(0), 0);
        CoatBetween none = Check.village("h0mA:0-0:1:9mA:0-0:1:1");
        Check.none(none, "costs(0), no best plan though there is one without it", () -> none.costs(0));
        Check.none(none, "costs(1)", () -> none.costs(1));
    }

    private static void ruleIs(String text, String rule, int worth, int... line) {
        CoatBetween x = Check.village(text);
        Check.write(x, 0, rule);
        Check.due("rule " + rule + " in " + text, x.rule(0, 5), worth);
        Check.rowIs(x, "rule " + rule + " in " + text, 5, line);
    }

    private static void rules() {
        String alike = "h0nA:0-27:2:5nA:0-27:2:5nA:0-27:2:5";
        for (String rule : new String[] {"v", "b", "n", "c", "m", "vb", "bnc", "vbnc", "mmmm", "bbbb"}) {
            ruleIs(alike, rule, 15, 0, 1, 2);
        }
        ruleIs("h0nA:0-27:2:5nA:0-27:2:6", "v", 11, 1, 0);
        ruleIs("h0nA:0-27:2:5nA:0-26:2:6", "b", 11, 1, 0);
        ruleIs("h0nA:0-27:2:5nA:0-27:1:6", "n", 11, 1, 0);
        ruleIs("h0h4nB:0-27:2:5nA:0-27:2:6", "c", 11, 1, 0);
        ruleIs("h0h3nB:0-27:2:5nA:0-27:2:6", "c", 11, 0, 1);
        ruleIs("h0nA:0-27:2:5lA:0-27:2:5tA:2-27:2:5mA:0-27:2:6", "m", 16, 3, 0, 1);
    }

    private static void wiseNumbers() {
        CoatBetween x = Check.village("h0nA:0-27:2:5");
        Check.due("wise(), all alike", x.wise(), 0);
        Check.due("its worth", x.asked(), 5);
        CoatBetween y = Check.village("h0h4nA:0-27:4:1nA:0-3:4:1nB:4-8:4:9nB:0-27:1:9");
        int wise = y.wise();
        int worth = y.asked();
        int[] worths = new int[30];
        String letters = "vbncm";
        for (int number = 0; number < 30; number++) {
            int one = number < 5 ? number : (number - 5) / 5;
            int other = number < 5 ? number : (number - 5) % 5;
            Check.write(y, 0, letters.charAt(one) + (number < 5 ? "" : letters.substring(other, other + 1)));
            worths[number] = number >= 5 && one == other ? -1 : y.rule(0, 0);
        }
        int first = 0;
        for (int number = 0; number < 30; number++) {
            first = worths[number] > worths[first] ? number : first;
        }
        Check.due("wise(), the first of the greatest", wise, first);
        Check.due("its worth", worth, worths[first]);
    }

    private static void secondCoats() {
        CoatBetween none = Check.village("h0mA:0-0:1:1mA:0-0:1:2mA:0-0:1:3");
        none.need(2, 5);
        Check.none(none, "second(0), three musts at once", () -> none.second(0));
        CoatBetween both = Check.village("h0mA:0-0:1:1mA:0-0:1:2");
        Check.due("second(0), no plan by one", both.second(0), 3);
        Check.due("all of it", both.asked(), 3);
        CoatBetween same = Check.village("h0nA:0-27:1:1");
        Check.due("second(0), no more than one", same.second(0), 1);
        Check.due("none more", same.asked(), 0);
        CoatBetween empty = Check.village("h0");
        Check.due("second(0) of no needs", empty.second(0), 0);
        Check.due("none more", empty.asked(), 0);
    }

    private static void twoInIt() {
        CoatBetween x = Check.village("h0h3h4nA:0-5:2:1nB:4-9:2:2nC:0-9:2:4nA:0-9:1:8nA:7-9:2:3");
        Check.due("two(0, 1), no carry within 3", x.two(0, 1), 18);
        Check.none(x, "two(0, 2), a carry by 4", () -> x.two(0, 2));
        Check.none(x, "two(0, 3), not as long", () -> x.two(0, 3));
        Check.due("two(0, 4), from 7 to 5: not met", x.two(0, 4), 14);
        Check.due("two(4, 0)", x.two(4, 0), 14);
        CoatBetween house = Check.village("h0h3h7nB:0-27:1:1nA:0-27:1:1nC:3-3:1:9mB:0-0:1:1");
        Check.due("two(0, 1), at the lesser one's house", house.two(0, 1), 12);
        CoatBetween fit = Check.village("h0nA:0-5:2:1nA:4-9:2:1mA:0-9:1:1");
        Check.due("two(0, 1), a window of just two", fit.two(0, 1), 3);
        CoatBetween tight = Check.village("h0nA:0-4:2:1nA:4-9:2:1mA:0-9:1:1");
        Check.due("two(0, 1), a window of one", tight.two(0, 1), 1);
        CoatBetween must = Check.village("h0mA:0-4:2:1nA:4-9:2:1nA:0-9:1:1");
        Check.none(must, "two(0, 1), a window of one for a must", () -> must.two(0, 1));
        Check.none(must, "two(1, 0), a window of one for a must", () -> must.two(1, 0));
    }

    private static void mendIs(String text, int set, int house, int want) {
        Check.due("mends(" + set + ", " + house + ") in " + text, Check.village(text).mends(set, house), want);
    }

    private static void mendings() {
        String six = "nA:0-27:4:1".repeat(5);
        mendIs("h0" + six, 31, 0, 8);
        mendIs("h0" + six + "nA:0-27:1:1", 63, 0, 7);
        mendIs("h0" + six + "nA:0-27:4:1nA:0-27:2:1", 127, 0, 2);
        mendIs("h0" + six + "nA:0-27:4:1nA:0-27:3:1", 127, 0, 1);
        mendIs("h0" + six + "nA:0-27:4:1nA:0-27:4:1", 127, 0, 0);
        mendIs("h0wA:19-27:4:1", 1, 0, 8);
        mendIs("h0h15wA:0-27:4:1nA:21-27:4:1", 3, 1, 8);
        mendIs("h0h15wA:0-27:4:1wA:12-27:4:1", 3, 1, 8);
        mendIs("h0h15wA:0-27:4:1wA:10-27:4:1wA:20-27:4:1", 7, 1, 1);
        mendIs("h0h15wA:0-27:4:1wA:11-27:4:1wA:20-27:4:1", 7, 1, 2);
        mendIs("h0h15wA:24-27:4:1", 1, 1, 8);
        mendIs("h0h15nB:24-27:1:1", 1, 0, 8);
        mendIs("h0", 0, 0, 8);
    }

    private static void oddsAre(CoatBetween x, String of, long upper, long lower) {
        Check.due("odds() of " + of, x.odds(), 1);
        Check.due("upper() of " + of, x.upper(), upper);
        Check.due("lower() of " + of, x.lower(), lower);
    }

    private static void odds() {
        CoatBetween x = Check.village("h0" + "lA:0-27:1:1".repeat(8));
        oddsAre(x, "eight that are sure", 1, 1);
        for (int i = 0; i < 8; i++) {
            x.chance(i, 0);
        }
        oddsAre(x, "eight that are never", 1, 1);
        CoatBetween one = Check.village("h0h15 lB:0-0:1:1");
        oddsAre(one, "one that is sure and can't be met", 0, 1);
        for (int p = 1; p < 12; p++) {
            one.chance(0, p);
            int upper = 12 - p;
            int lower = 12;
            for (int d = 12; d > 1; d--) {
                boolean divides = upper % d == 0 && lower % d == 0;
                upper = divides ? upper / d : upper;
                lower = divides ? lower / d : lower;
            }
            oddsAre(one, "one at " + p, upper, lower);
        }
        CoatBetween all = Check.village("h0" + "tA:0-0:1:1".repeat(8));
        for (int i = 0; i < 8; i++) {
            all.chance(i, 11);
        }
        // None (1), or just one (8 * 11), of 12^8.
        oddsAre(all, "eight feasts at once", 89, 429981696);
        oddsAre(Check.village("h0nA:0-0:1:1nA:0-0:1:1mA:0-0:1:1"), "needs beside a must", 1, 1);
    }

    private static void calls() {
        // 48271 * 2147483646 modulo 2147483647 is 2147435376, that modulo 12 is 0.
        CoatBetween last = Check.village("h0lA:0-0:1:4");
        last.chance(0, 1);
        Check.due("call(2147483646), below 1", last.call(2147483646), 1);
        Check.due("its worth", last.asked(), 4);
        last.chance(0, 0);
        Check.due("call(2147483646), never", last.call(2147483646), 0);
        Check.due("its worth", last.asked(), 0);
        // 48271 modulo 12 is 7.
        last.chance(0, 7);
        Check.due("call(1), not below 7", last.call(1), 0);
        last.chance(0, 8);
        Check.due("call(1), below 8", last.call(1), 1);
        last.chance(0, 12);
        for (int seed = 1; seed < 60; seed++) {
            Check.due("call(" + seed + "), sure", last.call(seed), 1);
        }
        CoatBetween eight = Check.village("h0" + "lA:0-27:1:1".repeat(8));
        Check.due("call(3) of eight", eight.call(3), 255);
        Check.due("its worth", eight.asked(), 8);
        CoatBetween none = Check.village("h0mA:0-0:1:1mA:0-0:1:1lA:5-5:1:3");
        Check.due("call(8), no plan", none.call(8), 4);
        Check.due("none is told", none.asked(), -9);
    }

    private static void keeps() {
        CoatBetween x = Check.village("h0h2h4h6h8h10h12h15");
        Check.lay(x, 0, 99, 99, 99, 99, 99, 99, 99, 99);
        Check.due("keep by 99 each", x.keep(0), 3);
        Check.due("upper()", x.upper(), 3);
        Check.due("lower()", x.lower(), 4);
        Check.lay(x, 0, 0, 0, 0, 0, 0, 0, 0, 1);
        Check.due("keep by one at the last", x.keep(0), 6);
        Check.due("upper()", x.upper(), 0);
        Check.due("lower()", x.lower(), 1);
        Check.lay(x, 0, 99, 0, 0, 0, 0, 0, 0, 98);
        Check.due("keep by 99 and 98", x.keep(0), 0);
        Check.due("upper()", x.upper(), 294);
        Check.due("lower()", x.lower(), 197);
        CoatBetween one = Check.village("h9");
        Check.lay(one, 0, 1);
        Check.due("keep in one house", one.keep(0), 0);
        Check.due("lower() of 0", one.lower(), 1);
        one.row(0, 0);
        Check.found(one, "keep by no parts", () -> one.keep(0), 5);
    }
}
