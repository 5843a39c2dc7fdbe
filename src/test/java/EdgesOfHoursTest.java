/** Promises 35 to 53 at their edges: full and empty lists, the first and the last watch, what is told at first. */
public final class EdgesOfHoursTest {
    private static final int NONE = -9;

    public static void main(String[] args) {
        sixteenDeals();
        leastAndMost();
        downToNothing();
        undoneToTheEdges();
        owed();
        richest();
        twelveThings();
        fromThePocket();
        twelveTracks();
        watches();
        carriesBetween();
        atFirst();
        liars();
        images();
        imagesAboveTheEdge();
        asked();
        findings();
        counts();
        lastCalls();
        Check.end();
    }

    private static int hours(CoatBetween x, int h) {
        x.house(h);
        return x.asked();
    }

    // ---- 35 to 38

    private static void sixteenDeals() {
        CoatBetween x = Check.village("h0h1h2h3h4h5h6h7");
        for (int i = 0; i < 16; i++) {
            Check.due("deal " + i, x.deal(0, i % 8, 0, i + 1), i);
        }
        Check.due("count(3)", x.count(3), 16);
        Check.refused(x, "a seventeenth deal", () -> x.deal(0, 0, 0, 1), -2);
        Check.due("undo(16) of sixteen", x.undo(16), 0);
        Check.refused(x, "still full", () -> x.deal(0, 0, 0, 1), -2);
        Check.due("undo(15)", x.undo(15), 1);
        Check.due("hours of 7", hours(x, 7), 8);
        Check.due("a sixteenth deal", x.deal(0, 7, 0, 99), 15);
        Check.due("hours of 7", hours(x, 7), 107);
        Check.due("undo(0) of sixteen", x.undo(0), 16);
        for (int h = 0; h < 8; h++) {
            Check.due("hours of " + h, hours(x, h), 0);
        }
        Check.due("undo(0) of none", x.undo(0), 0);
        Check.bad(x, "undo(1) of none", () -> x.undo(1));
        Check.due("a first deal", x.deal(0, 0, 0, 1), 0);
    }

    private static void leastAndMost() {
        CoatBetween x = Check.village("h0h1");
        Check.due("1 hour", x.deal(0, 0, 0, 1), 0);
        Check.due("99 hours", x.deal(0, 1, 0, 99), 1);
        Check.due("1 lent", x.deal(1, 0, 1, 1), 2);
        Check.due("99 sold", x.deal(2, 1, 0, 99), 3);
        Check.due("99 stolen", x.deal(3, 1, 0, 99), 4);
        Check.due("99 given back", x.deal(4, 1, 0, 99), 5);
        Check.due("owes(1, 0)", x.owes(1, 0), 1 + 198 - 99);
        for (int k : new int[] {-1, 2, 8, Integer.MAX_VALUE, Integer.MIN_VALUE, 0, 1}) {
            Check.due("saved, with another house " + k, x.deal(0, 1, k, 1), 6);
            x.undo(6);
        }
    }

    private static void downToNothing() {
        for (int kind = 1; kind <= 4; kind++) {
            CoatBetween x = Check.village("h0h1");
            x.deal(0, 0, 0, 12);
            int giver = kind == 3 ? 1 : 0;
            if (kind == 4) {
                x.deal(1, 0, 1, 12);
                giver = 1;
            }
            int h = giver;
            int of = kind;
            Check.refused(x, "deal of kind " + kind + " below 0", () -> x.deal(of, h, 1 - h, 13), -4);
            Check.due("deal of kind " + kind + " to 0", x.deal(kind, h, 1 - h, 12), kind == 4 ? 2 : 1);
            int poor = kind == 3 ? 0 : h;
            Check.due("hours there", hours(x, poor), 0);
            Check.due("hours of the other one", hours(x, 1 - poor), 12);
            Check.due("owes(0, 1)", x.owes(0, 1), 0);
            Check.due("owes(1, 0)", x.owes(1, 0), kind == 1 ? 12 : kind == 3 ? 24 : 0);
            Check.refused(x, "one more", () -> x.deal(2, poor, 1 - poor, 1), -4);
            Check.refused(x, "one more stolen", () -> x.deal(3, 1 - poor, poor, 1), -4);
        }
    }

    private static void undoneToTheEdges() {
        CoatBetween x = Check.village("h0h1h2");
        long[] digests = new long[13];
        int[][] deals = {{0, 0, 0, 40}, {1, 0, 1, 40}, {2, 1, 2, 40}, {3, 0, 2, 40}, {1, 0, 2, 3}, {4, 0, 2, 37},
            {3, 1, 2, 40}, {4, 1, 0, 40}, {2, 0, 1, 40}, {4, 1, 2, 40}, {3, 0, 2, 40}, {0, 1, 0, 1}};
        for (int i = 0; i < deals.length; i++) {
            digests[i] = x.digest();
            Check.due("deal " + i, x.deal(deals[i][0], deals[i][1], deals[i][2], deals[i][3]), i);
        }
        digests[12] = x.digest();
        for (int n = 11; n >= 0; n--) {
            Check.due("undo(" + n + ")", x.undo(n), 1);
            Check.due("as ahead of deal " + n, x.digest(), digests[n]);
        }
        for (int n = 0; n <= 12; n++) {
            for (int i = 0; i < deals.length; i++) {
                x.deal(deals[i][0], deals[i][1], deals[i][2], deals[i][3]);
            }
            Check.due("undo(" + n + ") at once", x.undo(n), 12 - n);
            Check.due("as ahead of deal " + n, x.digest(), digests[n]);
            x.undo(0);
        }
    }

    private static void owed() {
        CoatBetween x = Check.village("h0h1h2");
        for (int h = 0; h < 3; h++) {
            for (int k = 0; k < 3; k++) {
                Check.due("owes(" + h + ", " + k + ") at first", x.owes(h, k), h == k ? -1 : 0);
            }
        }
        x.deal(0, 2, 0, 9);
        x.deal(2, 2, 1, 4);
        Check.due("nothing is owed for what is sold", x.owes(1, 2), 0);
        x.deal(1, 2, 1, 2);
        x.deal(3, 2, 1, 6);
        Check.due("lent", x.owes(1, 2), 2);
        Check.due("stolen", x.owes(2, 1), 12);
        Check.refused(x, "given back, one more than is owed", () -> x.deal(4, 2, 1, 13), -4);
        Check.refused(x, "given back, more than there is", () -> x.deal(4, 2, 1, 10), -4);
        Check.due("given back, all there is", x.deal(4, 2, 1, 9), 4);
        Check.due("less is owed", x.owes(2, 1), 3);
    }

    private static void richest() {
        CoatBetween one = Check.village("h0");
        one.deal(0, 0, 0, 9);
        Check.due("rich() of one house", one.rich(), 0);
        Check.due("nothing is owed", one.asked(), 0);
        CoatBetween x = Check.village("h0h1h2h3h4h5h6h7");
        x.deal(0, 7, 0, 9);
        Check.due("rich(), none is owed: the first", x.rich(), 0);
        Check.due("nothing is owed", x.asked(), 0);
        x.deal(1, 7, 0, 1);
        Check.due("rich(), the last one", x.rich(), 7);
        Check.due("how much", x.asked(), 1);
        x.deal(1, 0, 6, 1);
        Check.due("rich(), the first of two alike", x.rich(), 0);
        for (int k = 1; k < 7; k++) {
            x.deal(1, 7, k, 1);
        }
        Check.due("rich(), by all others together", x.rich(), 7);
        Check.due("how much", x.asked(), 7);
        x.text(0, 0);
        x.village(0);
        Check.refused(x, "rich() of no house", x::rich, -4);
        Check.due("asked() stays", x.asked(), 7);
    }

    // ---- 39, 40

    private static void twelveThings() {
        CoatBetween x = Check.village("h0h1");
        Check.found(x, "find(0) in an empty pocket", () -> x.find(0), 1);
        Check.due("thing 0", x.pocket(0, 0), 1);
        Check.due("thing 99", x.pocket(1, 99), 2);
        for (int i = 3; i <= 12; i++) {
            Check.due("one more", x.pocket(0, 50), i);
        }
        Check.refused(x, "a thirteenth", () -> x.pocket(0, 50), -2);
        Check.due("find(1)", x.find(1), 10);
        Check.due("it", x.asked(), 99);
        Check.due("a twelfth again", x.pocket(1, 98), 12);
        Check.refused(x, "a thirteenth again", () -> x.pocket(1, 97), -2);
        Check.due("find(1), on top", x.find(1), 0);
        Check.due("it", x.asked(), 98);
        Check.found(x, "find(1), none of hers", () -> x.find(1), 1);
        for (int i = 0; i < 10; i++) {
            Check.due("find(0)", x.find(0), 0);
            Check.due("it", x.asked(), 50);
        }
        Check.due("find(0), the last one", x.find(0), 0);
        Check.due("it", x.asked(), 0);
        Check.due("count(4)", x.count(4), 0);
        Check.found(x, "find(0), an empty pocket again", () -> x.find(0), 1);
        Check.due("thing 7", x.pocket(1, 7), 1);
    }

    private static void fromThePocket() {
        CoatBetween x = Check.village("h0h1h2");
        int[][] things = {{0, 1}, {1, 2}, {0, 3}, {2, 4}, {1, 5}};
        for (int[] thing : things) {
            x.pocket(thing[0], thing[1]);
        }
        long all = x.digest();
        Check.due("find(0), two of others on it", x.find(0), 2);
        Check.due("the uppermost of hers", x.asked(), 3);
        CoatBetween y = Check.village("h0h1h2");
        y.pocket(0, 1);
        y.pocket(1, 2);
        y.pocket(2, 4);
        y.pocket(1, 5);
        Check.due("the others lie as they lay", x.digest(), y.digest());
        Check.due("not as all did", x.digest() == all ? 1 : 0, 0);
        Check.due("find(0), three of others on it", x.find(0), 3);
        Check.due("the other one of hers", x.asked(), 1);
    }

    // ---- 41 to 44

    private static void twelveTracks() {
        CoatBetween x = Check.village("h0h1h2");
        for (int i = 0; i < 12; i++) {
            Check.due("track " + i, x.track(i % 3, i == 0 ? 27 : i == 1 ? 0 : 9), i);
        }
        Check.refused(x, "a thirteenth", () -> x.track(0, 1), -2);
        Check.due("forget(12) of twelve", x.forget(12), 0);
        Check.refused(x, "still full", () -> x.track(0, 1), -2);
        Check.bad(x, "forget(13)", () -> x.forget(13));
        Check.due("forget(11)", x.forget(11), 1);
        Check.due("a twelfth again", x.track(2, 27), 11);
        Check.due("forget(0) of twelve", x.forget(0), 12);
        Check.due("count(5)", x.count(5), 0);
        Check.due("forget(0) of none", x.forget(0), 0);
        Check.bad(x, "forget(1) of none", () -> x.forget(1));
        Check.due("a first one", x.track(1, 1), 0);
    }

    private static void watches() {
        CoatBetween x = Check.village("h0h15");
        Check.due("could(27), none told", x.could(27), 3);
        Check.due("could(0), none told", x.could(0), 1);
        Check.due("could(2), three away", x.could(2), 1);
        Check.due("could(3), three away", x.could(3), 3);
        x.track(1, 27);
        Check.due("could(27)", x.could(27), 2);
        Check.due("could(26)", x.could(26), 2);
        Check.due("could(25)", x.could(25), 2);
        Check.due("could(24)", x.could(24), 3);
        x.track(0, 27);
        Check.due("could(27), two told of one watch", x.could(27), 0);
        Check.due("could(24), two told of one watch", x.could(24), 3);
        Check.due("could(25), two told of one watch", x.could(25), 0);
        Check.due("liar()", x.liar(), 1);
    }

    private static void carriesBetween() {
        for (int place = 0; place < 16; place++) {
            CoatBetween x = Check.village("h0h" + place);
            int least = Math.max(1, place / 4);
            for (int apart = 0; apart <= 5; apart++) {
                x.track(0, 10);
                String when = place + " away, " + apart + " apart, ";
                int can = apart >= least ? 1 : 0;
                Check.due(when + "could() behind", x.could(10 + apart) >> 1, can);
                Check.due(when + "could() ahead", x.could(10 - apart) >> 1, can);
                x.track(1, 10 - apart);
                Check.due(when + "liar()", x.liar(), can == 1 ? NONE : 1);
                x.forget(0);
            }
        }
    }

    private static void atFirst() {
        CoatBetween x = Check.village("h0h7h15");
        x.start(2);
        Check.due("could(0) from C", x.could(0), 4);
        Check.due("could(1) from C", x.could(1), 4);
        Check.due("could(2) from C", x.could(2), 6);
        x.track(0, 0);
        Check.due("could(0), a track tells", x.could(0), 1);
        Check.due("could(1), a track tells", x.could(1), 3);
        Check.due("liar(), a track tells", x.liar(), NONE);
        x.forget(0);
        Check.due("could(0), as at first", x.could(0), 4);
        x.track(0, 2);
        Check.due("liar(), not from C in two", x.liar(), 0);
        Check.due("could(0), from C and to A", x.could(0), 0);
        x.forget(0);
        x.track(0, 3);
        Check.due("liar(), from C in three", x.liar(), NONE);
    }

    private static void liars() {
        CoatBetween x = Check.village("h0h15");
        for (int i = 0; i < 11; i++) {
            x.track(0, 2 * i + 5);
        }
        Check.due("liar() of eleven", x.liar(), NONE);
        x.track(1, 26);
        Check.due("liar(), the twelfth, one watch behind", x.liar(), 11);
        x.forget(11);
        x.track(1, 1);
        Check.due("liar(), the twelfth, three watches from the first", x.liar(), 11);
        x.start(1);
        Check.due("liar(), the twelfth, where it was at first", x.liar(), NONE);
        x.forget(10);
        x.track(0, 0);
        Check.due("liar(), a track of watch 0 ahead of all", x.liar(), NONE);
        x.track(1, 0);
        Check.due("liar(), another one", x.liar(), 11);
    }

    // ---- 45, 46

    private static void images() {
        CoatBetween x = Check.village("h0h1h2h3h4h5h6");
        int[] ints = new int[49];
        for (int i = 0; i < 49; i++) {
            ints[i] = i == 0 ? 0 : 9999 - i;
        }
        ints[6] = 9999;
        ints[48] = 9999;
        Check.lay(x, 0, ints);
        x.deal(0, 3, 0, 5);
        Check.due("on(0) of seven", x.on(0), 1);
        Check.due("no deals", x.count(3), 0);
        Check.due("undo(0)", x.undo(0), 0);
        Check.due("hours of the first", hours(x, 0), 0);
        Check.due("hours of the last", hours(x, 6), 9999);
        Check.due("owes(0, 1)", x.owes(0, 1), 9999 - 7);
        Check.due("owes(0, 6)", x.owes(0, 6), 9999 - 12);
        Check.due("owes(1, 0)", x.owes(1, 0), 9999 - 13);
        Check.due("owes(1, 2)", x.owes(1, 2), 9999 - 14);
        Check.due("owes(6, 5)", x.owes(6, 5), 9999);
        Check.due("image(5) of seven", x.image(5), 49);
        Check.rowIs(x, "as it came", 5, ints);
        Check.due("on(5)", x.on(5), 1);
        CoatBetween one = Check.village("h0");
        one.row(0, 1);
        Check.due("on(0) of one", one.on(0), 1);
        one.row(0, 0);
        Check.found(one, "on of none in one house", () -> one.on(0), 5);
        CoatBetween none = new CoatBetween();
        none.row(0, 1);
        Check.found(none, "on of one in no house", () -> none.on(0), 5);
        none.row(0, 0);
        Check.due("on of none in no house", none.on(0), 1);
        Check.due("image of no house", none.image(4), 0);
        Check.due("a row of no place is there", none.count(6), 2);
    }

    private static void imagesAboveTheEdge() {
        CoatBetween x = Check.village("h0h1");
        Check.lay(x, 0, 9999, 9999, 9998, 0);
        Check.due("on(0)", x.on(0), 1);
        Check.due("one more hour", x.deal(0, 0, 0, 1), 0);
        Check.due("hours", hours(x, 0), 10000);
        Check.due("image(1)", x.image(1), 4);
        Check.found(x, "on(1), above 9999", () -> x.on(1), 3);
        Check.due("the deal stays", x.undo(0), 1);
        Check.due("image(1)", x.image(1), 4);
        Check.due("on(1), 9999", x.on(1), 1);
        Check.due("one stolen", x.deal(3, 0, 1, 1), 0);
        Check.due("owes(0, 1)", x.owes(0, 1), 10000);
        Check.due("given back", x.deal(4, 0, 1, 99), 1);
    }

    // ---- 47 to 53

    private static void asked() {
        CoatBetween x = Check.village("h0h9mA:0-1:2:1mB:1-1:1:5nA:9-9:1:2");
        x.need(1, 5);
        Check.due("asked()", x.asked(), 5);
        Check.none(x, "best() of none", x::best);
        Check.none(x, "second(0) of none", () -> x.second(0));
        Check.none(x, "costs(0) of none", () -> x.costs(0));
        Check.none(x, "can(3) of none", () -> x.can(3));
        Check.none(x, "liar() of none", x::liar);
        Check.due("asked() stays", x.asked(), 5);
        Check.due("asked() tells no call of its own", x.asked(), 5);
        Check.due("call(2), no plan", x.call(2), 0);
        Check.due("asked() tells none", x.asked(), NONE);
        Check.due("sets()", x.sets(), 4);
        Check.due("asked()", x.asked(), 3);
        x.digest();
        Check.due("asked() stays by digest()", x.asked(), 3);
        Check.due("house(1)", x.house(1), 9);
        Check.due("asked()", x.asked(), 0);
    }

    private static void findings() {
        CoatBetween x = new CoatBetween();
        for (int f = 1; f <= 5; f++) {
            Check.due("findings(" + f + ") before any", x.findings(f), 0);
        }
        Check.due("finding() before any", x.finding(), 0);
        for (int i = 1; i <= 400; i++) {
            x.at(0, 0);
        }
        Check.due("findings(1), often", x.findings(1), 400);
        x.row(0, -1);
        Check.due("findings(5)", x.findings(5), 1);
        Check.due("finding()", x.finding(), 5);
        x.at(6, 0);
        x.rich();
        x.liar();
        Check.due("finding() stays by BAD, STATE, NONE", x.finding(), 5);
        Check.due("findings(1) stays", x.findings(1), 400);
        x.text(0, 0);
        x.village(0);
        Check.due("finding() stays by a village", x.finding(), 5);
        for (int f = 2; f <= 4; f++) {
            Check.due("findings(" + f + ")", x.findings(f), 0);
        }
    }

    private static void counts() {
        CoatBetween x = Check.village("h0h1h2h3h4h5h6h7wH:0-9:1:1fA:0-9:1:1mA:0-9:1:1nA:0-9:1:1lA:0-9:1:1tA:0-9:1:1");
        for (int i = 0; i < 16; i++) {
            x.deal(0, 0, 0, 1);
            x.pocket(0, 1);
            x.track(0, 0);
        }
        for (int i = 0; i < 6; i++) {
            x.row(i, 0);
            x.text(i, 0);
        }
        int[] want = {8, 6, 3, 16, 12, 12, 6, 4};
        for (int what = 0; what < 8; what++) {
            Check.due("count(" + what + "), full", x.count(what), want[what]);
        }
    }

    /** An object is used for at most 512 calls: the last of them still answers. */
    private static void lastCalls() {
        CoatBetween x = new CoatBetween();
        x.text(0, 2);
        x.put(0, 0, 'h');
        x.put(0, 1, '7');
        Check.due("village(0)", x.village(0), 1);
        for (int call = 5; call <= 511; call++) {
            Check.due("call " + call, x.orders(0), 1);
        }
        Check.due("call 512", x.house(0), 7);
    }
}
