/** Promises 32 to 34 by hand, and their refusals. */
public final class ChancesTest {
    public static void main(String[] args) {
        odds();
        call();
        callRefused();
        keep();
        keepRefused();
        Check.end();
    }

    private static void oddsAre(CoatBetween x, String of, long upper, long lower) {
        int asked = x.asked();
        Check.due("odds() of " + of, x.odds(), 1);
        Check.due("upper() of " + of, x.upper(), upper);
        Check.due("lower() of " + of, x.lower(), lower);
        Check.due("asked() stays", x.asked(), asked);
    }

    private static void odds() {
        oddsAre(new CoatBetween(), "nothing", 1, 1);
        oddsAre(Check.village("h0h15mA:0-1:2:1mB:2-4:3:1"), "no plan", 0, 1);
        CoatBetween x = Check.village("h0 lA:0-1:2:1 tA:0-3:2:1 nA:0-0:4:1");
        oddsAre(x, "two that are sure", 0, 1);
        x.chance(0, 6);
        oddsAre(x, "one at 6 of 12", 1, 2);
        x.chance(1, 4);
        oddsAre(x, "not both", 5, 6);
        x.chance(1, 0);
        oddsAre(x, "one never", 1, 1);
        CoatBetween y = Check.village("h0 mA:0-1:2:1 lA:0-2:1:1 lA:0-2:1:1 lA:2-3:1:1");
        for (int i = 1; i <= 3; i++) {
            y.chance(i, 1);
        }
        // One at most of the three in watches 2 and 3: all but 1 and 2 both.
        oddsAre(y, "beside a must", 143, 144);
        CoatBetween z = Check.village("h0" + "lA:0-0:1:1".repeat(8));
        for (int i = 0; i < 8; i++) {
            z.chance(i, 1);
        }
        // None is called, or just one: 11^8 + 8 * 11^7 of 12^8.
        oddsAre(z, "eight", 370256249, 429981696);
    }

    private static void call() {
        // 48271 modulo 12 is 7; the next one, 182605794, modulo 12 is 6; then 1291394886, 6; then 1914720637, 1.
        CoatBetween x = Check.village("h0 lA:0-1:2:9 nA:0-1:2:4 lA:2-3:1:3 tA:9-9:1:2");
        Check.due("call(1)", x.call(1), 13);
        Check.due("its worth", x.asked(), 14);
        x.chance(0, 7);
        Check.due("call(1), not below 7", x.call(1), 12);
        Check.due("its worth", x.asked(), 9);
        x.chance(0, 8);
        x.chance(2, 7);
        Check.due("call(1), below 8, 7", x.call(1), 13);
        x.chance(2, 6);
        Check.due("call(1), not below 6", x.call(1), 9);
        Check.due("its worth", x.asked(), 11);
        x.chance(3, 1);
        Check.due("call(1), not below 1", x.call(1), 1);
        x.chance(3, 2);
        Check.due("call(1), below 2", x.call(1), 9);
        CoatBetween y = Check.village("h0mA:0-1:2:1mA:1-2:2:1lA:0-9:1:1");
        Check.due("call(5), no plan", y.call(5), 4);
        Check.due("its worth", y.asked(), -9);
        Check.due("call of nothing", new CoatBetween().call(5), 0);
    }

    private static void callRefused() {
        CoatBetween x = Check.village("h0lA:0-1:2:9");
        Check.due("call(2147483646)", x.call(2147483646), 1);
        Check.bad(x, "call(0)", () -> x.call(0));
        Check.bad(x, "call(-1)", () -> x.call(-1));
        Check.bad(x, "call(2147483647)", () -> x.call(2147483647));
        Check.bad(x, "call(LEAST)", () -> x.call(Integer.MIN_VALUE));
    }

    private static void keepIs(CoatBetween x, String of, int house, long upper, long lower) {
        int asked = x.asked();
        Check.due("keep() by " + of, x.keep(2), house);
        Check.due("upper() by " + of, x.upper(), upper);
        Check.due("lower() by " + of, x.lower(), lower);
        Check.due("asked() stays", x.asked(), asked);
    }

    private static void keep() {
        // Carries: AB 1, AC 3, BC 2.
        CoatBetween x = Check.village("h0h4h12");
        Check.lay(x, 2, 1, 1, 1);
        keepIs(x, "all alike", 1, 1, 1);
        Check.lay(x, 2, 5, 0, 1);
        keepIs(x, "most at A", 0, 1, 2);
        Check.lay(x, 2, 99, 99, 99);
        keepIs(x, "99 each", 1, 1, 1);
        Check.lay(x, 2, 0, 0, 7);
        keepIs(x, "C alone", 2, 0, 1);
        Check.lay(x, 2, 1, 1, 0);
        keepIs(x, "the first of two", 0, 1, 2);
        Check.lay(x, 2, 2, 0, 3);
        keepIs(x, "A and C", 2, 6, 5);
    }

    private static void keepRefused() {
        CoatBetween x = Check.village("h0h4h12");
        Check.lay(x, 1, 1, 2);
        Check.lay(x, 2, 1, 2, 3, 4);
        Check.lay(x, 3, 1, 100, 1);
        Check.lay(x, 4, 0, 0, -1);
        Check.lay(x, 5, 0, 0, 0);
        Check.bad(x, "keep(6)", () -> x.keep(6));
        Check.bad(x, "keep(-1)", () -> x.keep(-1));
        Check.found(x, "keep(0)", () -> x.keep(0), 1);
        Check.found(x, "keep(1)", () -> x.keep(1), 5);
        Check.found(x, "keep(2)", () -> x.keep(2), 5);
        Check.found(x, "keep(3)", () -> x.keep(3), 3);
        Check.found(x, "keep(4)", () -> x.keep(4), 3);
        Check.found(x, "keep(5)", () -> x.keep(5), 4);
        Check.lay(x, 5, 1, -1, 0);
        Check.found(x, "keep(5), 0 together", () -> x.keep(5), 3);
        CoatBetween y = new CoatBetween();
        y.row(0, 0);
        Check.found(y, "keep of no houses", () -> y.keep(0), 4);
    }
}
