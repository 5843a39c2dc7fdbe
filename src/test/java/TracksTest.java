/** Promises 39 to 44: the pocket, tracks. */
public final class TracksTest {
    public static void main(String[] args) {
        pocket();
        find();
        findInFullPocket();
        pocketRefused();
        track();
        forget();
        could();
        couldBySharedWatch();
        liar();
        couldRefused();
        Check.end();
    }

    private static void pocket() {
        CoatBetween x = Check.village("h0h1h2");
        for (int i = 1; i <= 12; i++) {
            Check.due("pocket, thing " + i, x.pocket(i % 3, i * 8), i);
        }
        Check.due("count(4)", x.count(4), 12);
        Check.refused(x, "pocket when full", () -> x.pocket(0, 1), -2);
        Check.bad(x, "bad ahead of full", () -> x.pocket(3, 1));
        Check.due("find(0)", x.find(0), 0);
        Check.due("room again", x.pocket(0, 99), 12);
    }

    private static void find() {
        CoatBetween x = Check.village("h0h1h2");
        x.pocket(0, 10);
        x.pocket(1, 20);
        x.pocket(0, 0);
        x.pocket(2, 99);
        x.pocket(1, 21);
        Check.due("find(0)", x.find(0), 2);
        Check.due("it", x.asked(), 0);
        Check.due("count(4)", x.count(4), 4);
        Check.due("find(0)", x.find(0), 3);
        Check.due("it", x.asked(), 10);
        Check.found(x, "find(0), none of hers", () -> x.find(0), 1);
        Check.due("find(1)", x.find(1), 0);
        Check.due("it", x.asked(), 21);
        Check.due("find(1)", x.find(1), 1);
        Check.due("it", x.asked(), 20);
        Check.due("find(2)", x.find(2), 0);
        Check.due("it", x.asked(), 99);
        Check.found(x, "find(2), an empty pocket", () -> x.find(2), 1);
    }

    private static void findInFullPocket() {
        CoatBetween x = Check.village("h0h1");
        x.pocket(1, 99);
        for (int i = 0; i < 11; i++) {
            x.pocket(0, i);
        }
        Check.due("find(1), the lowest of twelve", x.find(1), 11);
        for (int i = 10; i >= 0; i--) {
            Check.due("find(0)", x.find(0), 0);
            Check.due("it", x.asked(), i);
        }
        Check.due("count(4)", x.count(4), 0);
    }

    private static void pocketRefused() {
        CoatBetween x = Check.village("h0h1h2");
        x.pocket(1, 5);
        Check.bad(x, "pocket(3, 0)", () -> x.pocket(3, 0));
        Check.bad(x, "pocket(-1, 0)", () -> x.pocket(-1, 0));
        Check.bad(x, "pocket(0, 100)", () -> x.pocket(0, 100));
        Check.bad(x, "pocket(0, -1)", () -> x.pocket(0, -1));
        Check.bad(x, "find(3)", () -> x.find(3));
        Check.bad(x, "find(-1)", () -> x.find(-1));
        Check.found(x, "find(0)", () -> x.find(0), 1);
    }

    private static void track() {
        CoatBetween x = Check.village("h0h1h2");
        for (int i = 0; i < 12; i++) {
            Check.due("track " + i, x.track(i % 3, i == 11 ? 27 : i), i);
        }
        Check.due("count(5)", x.count(5), 12);
        Check.refused(x, "track when full", () -> x.track(0, 1), -2);
        Check.bad(x, "bad ahead of full", () -> x.track(0, 28));
        CoatBetween y = Check.village("h0h1h2");
        Check.bad(y, "track(3, 0)", () -> y.track(3, 0));
        Check.bad(y, "track(-1, 0)", () -> y.track(-1, 0));
        Check.bad(y, "track(0, 28)", () -> y.track(0, 28));
        Check.bad(y, "track(0, -1)", () -> y.track(0, -1));
    }

    private static void forget() {
        CoatBetween x = Check.village("h0h1h2");
        for (int i = 0; i < 5; i++) {
            x.track(i % 3, i);
        }
        Check.due("forget(5)", x.forget(5), 0);
        Check.due("forget(3)", x.forget(3), 2);
        Check.due("count(5)", x.count(5), 3);
        Check.bad(x, "forget(4)", () -> x.forget(4));
        Check.bad(x, "forget(-1)", () -> x.forget(-1));
        Check.due("the next one's number", x.track(0, 9), 3);
        Check.due("forget(0)", x.forget(0), 4);
        Check.due("forget(0) of none", x.forget(0), 0);
    }

    private static void couldIs(CoatBetween x, String when, int... bits) {
        for (int watch = 0; watch < bits.length; watch++) {
            Check.due("could(" + watch + ") " + when, x.could(watch), bits[watch]);
        }
    }

    private static void could() {
        // Carries: AB 0, AC 2, AD 3; BC 1, BD 3; CD 1.
        CoatBetween x = Check.village("h0h3h8h15");
        couldIs(x, "from A", 1, 3, 7, 15, 15);
        Check.due("could(27) from A", x.could(27), 15);
        x.start(3);
        couldIs(x, "from D", 8, 12, 12, 15, 15);
        x.start(0);
        x.track(3, 4);
        couldIs(x, "from A, D in 4", 1, 3, 4, 12, 8, 12, 12, 15);
        x.track(2, 3);
        couldIs(x, "C in 3, too", 1, 3, 4, 4, 8, 12, 12, 15);
        Check.due("liar()", x.liar(), -9);
        x.track(2, 4);
        couldIs(x, "C in 4, too: none in 4", 1, 3, 4, 4, 0, 12, 12);
        Check.due("liar()", x.liar(), 2);
    }

    private static void couldBySharedWatch() {
        CoatBetween x = Check.village("h0h3h8h15");
        x.track(3, 0);
        couldIs(x, "D in 0, wherever it was at first", 8, 12, 12, 15);
        Check.due("liar()", x.liar(), -9);
        x.track(1, 0);
        couldIs(x, "B in 0, too", 0, 4, 4, 15);
        Check.due("liar()", x.liar(), 1);
        x.forget(1);
        x.track(3, 0);
        Check.due("twice the same", x.liar(), -9);
        couldIs(x, "twice the same", 8, 12);
    }

    private static void liar() {
        CoatBetween x = Check.village("h0h3h8h15");
        Check.due("liar() of none", x.liar(), -9);
        x.track(2, 1);
        Check.due("not from A in one", x.liar(), 0);
        x.track(1, 0);
        Check.due("from B in one", x.liar(), -9);
        x.forget(1);
        x.start(1);
        Check.due("from B in one", x.liar(), -9);
        x.start(0);
        x.forget(0);
        x.track(3, 9);
        x.track(0, 6);
        Check.due("three apart", x.liar(), -9);
        x.track(0, 13);
        x.track(0, 11);
        x.track(0, 7);
        Check.due("the first that can't be", x.liar(), 3);
        x.forget(3);
        x.track(1, 6);
        Check.due("two in one watch", x.liar(), 3);
        x.forget(3);
        x.track(1, 5);
        Check.due("one watch between, no carry", x.liar(), -9);
    }

    private static void couldRefused() {
        CoatBetween x = Check.village("h0h1");
        Check.bad(x, "could(28)", () -> x.could(28));
        Check.bad(x, "could(-1)", () -> x.could(-1));
        Check.due("asked() stays", x.asked(), 0);
        CoatBetween none = new CoatBetween();
        Check.due("could(0) of no houses", none.could(0), 0);
        Check.due("liar() of no houses", none.liar(), -9);
    }
}
