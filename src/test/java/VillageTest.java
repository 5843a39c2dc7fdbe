/** Promises 10 to 17: faults, villages, what is told of them. */
public final class VillageTest {
    private static final String ALL_KINDS =
        "h0h4 h15 nA:0-3:2:5 mB:1-9:3:4 lC:4-27:4:9 wA:2-6:2:3 fB:3-5:2:1 tC:10-15:4:8";

    public static void main(String[] args) {
        texts();
        faults();
        faultsOfNumbers();
        tooMany();
        faultRefused();
        village();
        villageRefused();
        villageAnew();
        housesAndNeeds();
        marks();
        startAndCarry();
        chance();
        Check.end();
    }

    private static void fault(String text, int want) {
        CoatBetween x = new CoatBetween();
        Check.write(x, 1, text);
        Check.due("fault of '" + text + "'", x.fault(1), want);
        Check.due("village of '" + text + "'", x.village(1) == -4 ? 1 : 0, want == -9 ? 0 : 1);
    }

    private static void texts() {
        fault("", -9);
        fault("   ", -9);
        fault("h0", -9);
        fault("h00h15h07", -9);
        fault("  h15  h1h2 ", -9);
        fault(ALL_KINDS, -9);
        fault("h0nA:0-27:4:9nA:00-00:1:1 lA:05-5:1:1", -9);
        fault("h0nA:27-27:4:9h1nB:9-10:1:1", -9);
    }

    private static void faults() {
        fault("A", 0);
        fault("H0", 0);
        fault("5", 0);
        fault("  x", 2);
        fault("h", 1);
        fault("h ", 1);
        fault("hh", 1);
        fault("h1 2", 3);
        fault("n", 1);
        fault("nA:0-1:1:1", 1);
        fault("h0n", 3);
        fault("h0nB:0-1:1:1", 3);
        fault("h0h0nC:0-1:1:1", 5);
        fault("h0na:0-1:1:1", 3);
        fault("h0n@:0-1:1:1", 3);
        fault("h0n A:0-1:1:1", 3);
        fault("h0zA:0-1:1:1", 2);
        fault("h0nA", 4);
        fault("h0nA ", 4);
        fault("h0nA-", 4);
        fault("h0nA:3", 6);
        fault("h0nA:3 -4:1:1", 6);
        fault("h0nA:3:4:1:1", 6);
        fault("h0nA:3-3", 8);
        fault("h0nA:3-3-1:1", 8);
        fault("h0nA:3-3:1", 10);
        fault("h0nA:3-3:1;1", 10);
        fault("h0nA:3-3:12:1", 10);
        fault("h0nA:3-3:1:99", 12);
        fault("h0nA:3-3:1:9A", 12);
    }

    private static void faultsOfNumbers() {
        fault("h15", -9);
        fault("h16", 3);
        fault("h99 h1", 3);
        fault("h015", 3);
        fault("h160", 3);
        fault("h0nA:", 5);
        fault("h0nA:-3:1:1", 5);
        fault("h0nA:27-27:1:1", -9);
        fault("h0nA:28-28:1:1", 7);
        fault("h0nA:123-4:1:1", 7);
        fault("h0nA:3-", 7);
        fault("h0nA:3-x:1:1", 7);
        fault("h0nA:3-2:1:1", 8);
        fault("h0nA:5-4", 8);
        fault("h0nA:5-4 h1", 8);
        fault("h0nA:5-4h1", 8);
        fault("h0nA:10-09:1:1", 10);
        fault("h0nA:10-9:1:1", 9);
        fault("h0nA:10-28:1:1", 10);
        fault("h0nA:10-111:1:1", 10);
        fault("h0nA:3-3:", 9);
        fault("h0nA:3-3:0:1", 9);
        fault("h0nA:3-3:5:1", 9);
        fault("h0nA:3-3:x:1", 9);
        fault("h0nA:3-3:4:1", -9);
        fault("h0nA:3-3:1:", 11);
        fault("h0nA:3-3:1:0", 11);
        fault("h0nA:3-3:1:x", 11);
        fault("h0nA:3-3:1: ", 11);
        fault("h0nA:3-3:1:9", -9);
    }

    private static void tooMany() {
        String houses = "h0h1h2h3h4h5h6h7";
        fault(houses, -9);
        fault(houses + "h8", 16);
        fault(houses + " h", 17);
        fault(houses + "nH:0-0:1:1", -9);
        fault(houses + "nI:0-0:1:1", 17);
        String needs = "h0" + "nA:0-0:1:1".repeat(8);
        fault(needs, -9);
        fault(needs + "nA:0-0:1:1", 82);
        fault(needs + " t", 83);
        fault(needs + "q", 82);
        fault(needs + "h1", -9);
        CoatBetween x = new CoatBetween();
        x.text(0, 120);
        x.put(0, 119, 'h');
        Check.due("fault at the last place", x.fault(0), 120);
        x.put(0, 119, -100);
        Check.due("a byte below 0", x.fault(0), 119);
        x.put(0, 119, 0);
        Check.due("a byte that is 0", x.fault(0), 119);
        x.put(0, 118, 'h');
        x.put(0, 119, '5');
        Check.due("no fault", x.fault(0), -9);
    }

    private static void faultRefused() {
        CoatBetween x = Check.village(ALL_KINDS);
        Check.bad(x, "fault(4)", () -> x.fault(4));
        Check.bad(x, "fault(-1)", () -> x.fault(-1));
        Check.found(x, "fault(0)", () -> x.fault(0), 1);
        Check.write(x, 0, "h7h7h7h7nA:3-4:1:1 nA:9-8:1:1");
        Check.unchanged(x, "fault(0) changes no village", () -> x.fault(0), 25, 0);
    }

    private static void village() {
        CoatBetween x = new CoatBetween();
        Check.write(x, 0, ALL_KINDS);
        Check.due("village(0)", x.village(0), 3);
        Check.due("count(0)", x.count(0), 3);
        Check.due("count(1)", x.count(1), 6);
        Check.due("count(2)", x.count(2), 3);
        Check.write(x, 0, "  ");
        Check.due("village of none", x.village(0), 0);
        Check.due("count(0)", x.count(0), 0);
        Check.due("count(1)", x.count(1), 0);
        Check.write(x, 0, "h1h2h3h4h5h6h7h8");
        Check.due("village of eight", x.village(0), 8);
    }

    private static void villageRefused() {
        CoatBetween x = Check.village(ALL_KINDS);
        x.chance(2, 7);
        x.start(2);
        x.deal(0, 1, 0, 9);
        x.pocket(1, 4);
        x.track(1, 4);
        Check.bad(x, "village(4)", () -> x.village(4));
        Check.bad(x, "village(-1)", () -> x.village(-1));
        Check.found(x, "village(0)", () -> x.village(0), 1);
        Check.write(x, 0, "h7 h3 nA:0-1:1:1 q");
        Check.refused(x, "village with a fault", () -> x.village(0), -4);
        Check.due("deals stay", x.count(3), 1);
        Check.due("chance stays", x.chance(2, 7), 7);
    }

    private static void villageAnew() {
        CoatBetween x = Check.village(ALL_KINDS);
        Check.lay(x, 0, 4, 5);
        x.chance(2, 7);
        x.start(2);
        x.deal(0, 1, 0, 9);
        x.deal(3, 0, 1, 4);
        x.pocket(1, 4);
        x.track(1, 4);
        Check.due("village(3)", x.village(3), 3);
        Check.due("no deals", x.count(3), 0);
        Check.due("no things", x.count(4), 0);
        Check.due("no tracks", x.count(5), 0);
        Check.due("rows stay", x.count(6), 1);
        Check.due("texts stay", x.count(7), 1);
        for (int h = 0; h < 3; h++) {
            x.house(h);
            Check.due("no hours", x.asked(), 0);
            for (int k = 0; k < 3; k++) {
                if (k != h) {
                    Check.due("nothing owed", x.owes(h, k), 0);
                }
            }
        }
        Check.due("chances are 12", x.chance(2, 1), 12);
        Check.due("at house 0", x.start(1), 0);
    }

    private static void housesAndNeeds() {
        CoatBetween x = Check.village(ALL_KINDS);
        x.deal(0, 2, 0, 9);
        Check.due("house(0)", x.house(0), 0);
        Check.due("its hours", x.asked(), 0);
        Check.due("house(2)", x.house(2), 15);
        Check.due("its hours", x.asked(), 9);
        Check.due("house(1)", x.house(1), 4);
        Check.bad(x, "house(3)", () -> x.house(3));
        Check.bad(x, "house(-1)", () -> x.house(-1));
        int[][] needs = {{0, 0, 0, 3, 2, 5}, {1, 1, 1, 9, 3, 4}, {2, 2, 4, 27, 4, 9},
            {3, 0, 2, 6, 2, 3}, {4, 1, 3, 5, 2, 1}, {5, 2, 10, 15, 4, 8}};
        for (int i = 0; i < needs.length; i++) {
            for (int what = 0; what <= 5; what++) {
                Check.due("need(" + i + ", " + what + ")", x.need(i, what), 1);
                Check.due("what it tells", x.asked(), needs[i][what]);
            }
        }
        Check.bad(x, "need(6, 0)", () -> x.need(6, 0));
        Check.bad(x, "need(-1, 0)", () -> x.need(-1, 0));
        Check.bad(x, "need(0, 6)", () -> x.need(0, 6));
        Check.bad(x, "need(0, -1)", () -> x.need(0, -1));
    }

    private static void marks() {
        CoatBetween x = Check.village(ALL_KINDS);
        Check.due("mark(1, 1)", x.mark(1, 1), 4);
        Check.due("mark(3, 1)", x.mark(3, 1), 3);
        Check.due("mark(4, 1)", x.mark(4, 1), 1);
        x.chance(2, 5);
        x.chance(5, 0);
        Check.due("mark(2, 2)", x.mark(2, 2), 5);
        Check.due("mark(5, 2)", x.mark(5, 2), 0);
        Check.due("mark(3, 3)", x.mark(3, 3), 3);
        Check.due("mark(4, 4)", x.mark(4, 4), 2);
        Check.due("mark(5, 5)", x.mark(5, 5), 2);
        int[] fits = {0, 1 << 1, 1 << 2, 1 << 1 | 1 << 3, 1 << 1 | 1 << 4, 1 << 2 | 1 << 5};
        for (int need = 0; need < 6; need++) {
            int i = need;
            for (int asKind = 1; asKind <= 5; asKind++) {
                int kind = asKind;
                if ((fits[i] >> kind & 1) == 0) {
                    Check.found(x, "mark(" + i + ", " + kind + ")", () -> x.mark(i, kind), 3);
                }
            }
            Check.bad(x, "mark(i, 0)", () -> x.mark(i, 0));
        }
        Check.bad(x, "mark(1, 6)", () -> x.mark(1, 6));
        Check.bad(x, "mark(1, -1)", () -> x.mark(1, -1));
        Check.bad(x, "mark(6, 1)", () -> x.mark(6, 1));
        Check.bad(x, "mark(-1, 1)", () -> x.mark(-1, 1));
        CoatBetween y = Check.village("h0wA:27-27:4:9fA:3-5:3:1fA:3-4:3:1tA:5-8:4:1tA:5-7:4:1");
        Check.due("a wedding too late", y.mark(0, 3), 30);
        Check.due("a fire once", y.mark(1, 4), 1);
        Check.due("a fire never", y.mark(2, 4), 0);
        Check.due("a feast to its end", y.mark(3, 5), 0);
        Check.none(y, "a feast that can't end", () -> y.mark(4, 5));
    }

    private static void startAndCarry() {
        CoatBetween x = Check.village("h0h3h4h15h7");
        Check.due("start(3)", x.start(3), 0);
        Check.due("start(1)", x.start(1), 3);
        Check.due("start(1)", x.start(1), 1);
        Check.bad(x, "start(5)", () -> x.start(5));
        Check.bad(x, "start(-1)", () -> x.start(-1));
        int[] places = {0, 3, 4, 15, 7};
        for (int h = 0; h < 5; h++) {
            for (int k = 0; k < 5; k++) {
                Check.due("carry(" + h + ", " + k + ")", x.carry(h, k), Math.abs(places[h] - places[k]) / 4);
            }
        }
        Check.due("carry(1, 2)", x.carry(1, 2), 0);
        Check.due("carry(0, 3)", x.carry(0, 3), 3);
        Check.due("carry(4, 0)", x.carry(4, 0), 1);
        Check.bad(x, "carry(5, 0)", () -> x.carry(5, 0));
        Check.bad(x, "carry(0, 5)", () -> x.carry(0, 5));
        Check.bad(x, "carry(-1, 0)", () -> x.carry(-1, 0));
        Check.bad(x, "carry(0, -1)", () -> x.carry(0, -1));
    }

    private static void chance() {
        CoatBetween x = Check.village(ALL_KINDS);
        Check.due("chance(2, 0)", x.chance(2, 0), 12);
        Check.due("chance(2, 12)", x.chance(2, 12), 0);
        Check.due("chance(5, 3)", x.chance(5, 3), 12);
        Check.due("chance(5, 4)", x.chance(5, 4), 3);
        Check.bad(x, "chance(2, 13)", () -> x.chance(2, 13));
        Check.bad(x, "chance(2, -1)", () -> x.chance(2, -1));
        Check.bad(x, "chance(6, 1)", () -> x.chance(6, 1));
        Check.bad(x, "chance(-1, 1)", () -> x.chance(-1, 1));
        Check.bad(x, "chance(0, 13)", () -> x.chance(0, 13));
        for (int need : new int[] {0, 1, 3, 4}) {
            Check.found(x, "chance(" + need + ", 1)", () -> x.chance(need, 1), 3);
        }
    }
}
