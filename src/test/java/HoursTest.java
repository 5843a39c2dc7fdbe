/** Promises 35 to 38, 45 and 46: hours, deals, images of them. */
public final class HoursTest {
    private static final String FOUR = "h0h1h2h3";

    public static void main(String[] args) {
        deals();
        dealRefused();
        dealOrder();
        undo();
        rich();
        image();
        imageRefused();
        on();
        onRefused();
        Check.end();
    }

    private static void hoursAre(CoatBetween x, String when, int... hours) {
        for (int h = 0; h < hours.length; h++) {
            x.house(h);
            Check.due("hours of " + h + " " + when, x.asked(), hours[h]);
        }
    }

    private static void deals() {
        CoatBetween x = Check.village(FOUR);
        Check.due("0 saves 50", x.deal(0, 0, 0, 50), 0);
        Check.due("1 saves 99", x.deal(0, 1, -7, 99), 1);
        hoursAre(x, "saved", 50, 99, 0, 0);
        Check.due("0 lends 20 to 2", x.deal(1, 0, 2, 20), 2);
        hoursAre(x, "lent", 30, 99, 20, 0);
        Check.due("owes(2, 0)", x.owes(2, 0), 20);
        Check.due("owes(0, 2)", x.owes(0, 2), 0);
        Check.due("1 sells 30 to 3", x.deal(2, 1, 3, 30), 3);
        hoursAre(x, "sold", 30, 69, 20, 30);
        Check.due("owes(3, 1)", x.owes(3, 1), 0);
        Check.due("3 steals 9 from 1", x.deal(3, 3, 1, 9), 4);
        hoursAre(x, "stolen", 30, 60, 20, 39);
        Check.due("owes(3, 1)", x.owes(3, 1), 18);
        Check.due("owes(1, 3)", x.owes(1, 3), 0);
        Check.due("3 gives 18 back to 1", x.deal(4, 3, 1, 18), 5);
        hoursAre(x, "given back", 30, 78, 20, 21);
        Check.due("owes(3, 1)", x.owes(3, 1), 0);
        Check.due("2 gives 5 back to 0", x.deal(4, 2, 0, 5), 6);
        Check.due("owes(2, 0)", x.owes(2, 0), 15);
        Check.due("2 lends 15 to 0", x.deal(1, 2, 0, 15), 7);
        Check.due("owes(0, 2)", x.owes(0, 2), 15);
        Check.due("owes(2, 0) beside it", x.owes(2, 0), 15);
        hoursAre(x, "at the end", 50, 78, 0, 21);
        Check.due("count(3)", x.count(3), 8);
        Check.bad(x, "owes(0, 4)", () -> x.owes(0, 4));
        Check.bad(x, "owes(4, 0)", () -> x.owes(4, 0));
        Check.bad(x, "owes(-1, 0)", () -> x.owes(-1, 0));
        Check.bad(x, "owes(0, -1)", () -> x.owes(0, -1));
        Check.bad(x, "owes(2, 2)", () -> x.owes(2, 2));
    }

    private static void dealRefused() {
        CoatBetween x = Check.village(FOUR);
        x.deal(0, 0, 0, 10);
        x.deal(1, 0, 1, 4);
        for (int kind = 0; kind <= 4; kind++) {
            int of = kind;
            Check.bad(x, "deal " + kind + " of house 4", () -> x.deal(of, 4, 1, 1));
            Check.bad(x, "deal " + kind + " of house -1", () -> x.deal(of, -1, 1, 1));
            Check.bad(x, "deal " + kind + " of 0 hours", () -> x.deal(of, 1, 0, 0));
            Check.bad(x, "deal " + kind + " of -1 hours", () -> x.deal(of, 1, 0, -1));
            Check.bad(x, "deal " + kind + " of 100 hours", () -> x.deal(of, 1, 0, 100));
        }
        for (int kind = 1; kind <= 4; kind++) {
            int of = kind;
            Check.bad(x, "deal " + kind + " with house 4", () -> x.deal(of, 0, 4, 1));
            Check.bad(x, "deal " + kind + " with house -1", () -> x.deal(of, 0, -1, 1));
            Check.bad(x, "deal " + kind + " of one house", () -> x.deal(of, 1, 1, 1));
        }
        Check.bad(x, "deal 5", () -> x.deal(5, 0, 1, 1));
        Check.bad(x, "deal -1", () -> x.deal(-1, 0, 1, 1));
        Check.refused(x, "lent too many", () -> x.deal(1, 0, 1, 7), -4);
        Check.refused(x, "sold too many", () -> x.deal(2, 0, 1, 7), -4);
        Check.refused(x, "stolen too many", () -> x.deal(3, 2, 0, 7), -4);
        Check.refused(x, "given back to one who is not owed", () -> x.deal(4, 0, 1, 1), -4);
        Check.refused(x, "given back more than owed", () -> x.deal(4, 1, 0, 5), -4);
        x.deal(2, 1, 2, 2);
        Check.refused(x, "given back more than there is", () -> x.deal(4, 1, 0, 3), -4);
        Check.due("given back all there is", x.deal(4, 1, 0, 2), 3);
        Check.due("lent all there is", x.deal(1, 0, 1, 8), 4);
        Check.due("stolen all there is", x.deal(3, 0, 1, 8), 5);
        hoursAre(x, "then", 8, 0, 2, 0);
    }

    private static void dealOrder() {
        CoatBetween x = Check.village(FOUR);
        for (int i = 0; i < 16; i++) {
            Check.due("deal " + i, x.deal(0, 3, 3, 99), i);
        }
        Check.due("count(3)", x.count(3), 16);
        Check.bad(x, "bad ahead of full", () -> x.deal(0, 3, 0, 100));
        Check.refused(x, "not now ahead of full", () -> x.deal(1, 0, 1, 1), -4);
        Check.refused(x, "full", () -> x.deal(0, 0, 0, 1), -2);
        Check.refused(x, "full", () -> x.deal(1, 3, 1, 1), -2);
        Check.due("undo(15)", x.undo(15), 1);
        Check.due("room again", x.deal(1, 3, 1, 1), 15);
    }

    private static void undo() {
        CoatBetween x = Check.village(FOUR);
        long empty = x.digest();
        x.deal(0, 0, 0, 50);
        x.deal(0, 1, 0, 40);
        long saved = x.digest();
        x.deal(1, 0, 2, 20);
        x.deal(2, 1, 3, 30);
        x.deal(3, 3, 1, 9);
        x.deal(4, 3, 1, 18);
        long given = x.digest();
        Check.due("undo(6)", x.undo(6), 0);
        Check.due("nothing undone", x.digest(), given);
        Check.bad(x, "undo(7)", () -> x.undo(7));
        Check.bad(x, "undo(-1)", () -> x.undo(-1));
        Check.due("undo(5)", x.undo(5), 1);
        Check.due("owes(3, 1) again", x.owes(3, 1), 18);
        hoursAre(x, "one undone", 30, 1, 20, 39);
        Check.due("undo(2)", x.undo(2), 3);
        Check.due("as saved", x.digest(), saved);
        Check.due("undo(0)", x.undo(0), 2);
        Check.due("as at first", x.digest(), empty);
        Check.due("undo(0) of none", x.undo(0), 0);
        Check.bad(x, "undo(1)", () -> x.undo(1));
        Check.due("the next one's number", x.deal(0, 2, 0, 1), 0);
    }

    private static void rich() {
        CoatBetween none = new CoatBetween();
        Check.refused(none, "rich() of no house", () -> none.rich(), -4);
        CoatBetween x = Check.village(FOUR);
        Check.due("rich() of none owed", x.rich(), 0);
        Check.due("how much", x.asked(), 0);
        for (int h = 0; h < 4; h++) {
            x.deal(0, h, 0, 50);
        }
        x.deal(1, 1, 0, 5);
        x.deal(1, 2, 0, 3);
        x.deal(1, 2, 3, 2);
        Check.due("rich(), the first of alike ones", x.rich(), 1);
        Check.due("how much", x.asked(), 5);
        x.deal(1, 2, 1, 1);
        Check.due("rich(), by all together", x.rich(), 2);
        Check.due("how much", x.asked(), 6);
        x.deal(3, 0, 3, 4);
        Check.due("rich(), by what was stolen", x.rich(), 3);
        Check.due("how much", x.asked(), 8);
    }

    private static CoatBetween dealt() {
        CoatBetween x = Check.village("h0h1h2");
        x.deal(0, 0, 0, 50);
        x.deal(0, 1, 0, 40);
        x.deal(1, 0, 2, 7);
        x.deal(1, 1, 0, 3);
        x.deal(3, 2, 1, 4);
        return x;
    }

    private static void image() {
        CoatBetween x = dealt();
        x.row(4, 60);
        Check.due("image(4)", x.image(4), 9);
        Check.rowIs(x, "image", 4, 46, 33, 11, 3, 0, 0, 0, 7, 8);
        Check.due("deals stay", x.count(3), 5);
        CoatBetween none = new CoatBetween();
        Check.due("image of no house", none.image(0), 0);
        Check.rowIs(none, "image of no house", 0);
        Check.due("on of no house", none.on(0), 1);
        CoatBetween seven = Check.village("h0h0h0h0h0h0h0");
        Check.due("image of seven", seven.image(0), 49);
        CoatBetween one = Check.village("h0");
        one.deal(0, 0, 0, 9);
        Check.due("image of one", one.image(0), 1);
        Check.rowIs(one, "image of one", 0, 9);
    }

    private static void imageRefused() {
        CoatBetween x = Check.village("h0h0h0h0h0h0h0h0");
        x.row(0, 2);
        Check.bad(x, "image(6)", () -> x.image(6));
        Check.bad(x, "image(-1)", () -> x.image(-1));
        Check.refused(x, "image of eight", () -> x.image(0), -6);
        Check.bad(x, "on(6)", () -> x.on(6));
        Check.bad(x, "on(-1)", () -> x.on(-1));
        Check.refused(x, "on of eight", () -> x.on(0), -6);
        Check.refused(x, "on of eight, no row", () -> x.on(1), -6);
    }

    private static void on() {
        CoatBetween x = dealt();
        x.image(0);
        Check.due("undo(0)", x.undo(0), 5);
        Check.due("one more", x.deal(0, 2, 0, 99), 0);
        Check.due("on(0)", x.on(0), 1);
        hoursAre(x, "by the image", 46, 33, 11);
        Check.due("owes(0, 1)", x.owes(0, 1), 3);
        Check.due("owes(2, 0)", x.owes(2, 0), 7);
        Check.due("owes(2, 1)", x.owes(2, 1), 8);
        Check.due("owes(1, 0)", x.owes(1, 0), 0);
        Check.due("no deals", x.count(3), 0);
        Check.bad(x, "undo(1)", () -> x.undo(1));
        Check.due("a deal then", x.deal(4, 2, 1, 8), 0);
        Check.due("undone", x.undo(0), 1);
        hoursAre(x, "undone", 46, 33, 11);
        Check.lay(x, 1, 9999, 0, 1, 9999, 0, 0, 0, 0, 0);
        Check.due("on(1), the edges", x.on(1), 1);
        hoursAre(x, "at the edges", 9999, 0, 1);
        Check.due("owes(0, 1)", x.owes(0, 1), 9999);
    }

    private static void onRefused() {
        CoatBetween x = dealt();
        Check.lay(x, 1, 0, 0, 0, 0, 0, 0, 0, 0);
        Check.lay(x, 2, 0, 0, 0, 0, 0, 0, 0, 0, 0, 0);
        Check.lay(x, 3, 0, 0, 0, 0, 0, 0, 0, 0, -1);
        Check.lay(x, 4, 10000, 0, 0, 0, 0, 0, 0, 0, 0);
        Check.lay(x, 5, -1, 10000);
        Check.bad(x, "on(6)", () -> x.on(6));
        Check.found(x, "on(0)", () -> x.on(0), 1);
        Check.found(x, "on(1)", () -> x.on(1), 5);
        Check.found(x, "on(2)", () -> x.on(2), 5);
        Check.found(x, "on(3)", () -> x.on(3), 3);
        Check.found(x, "on(4)", () -> x.on(4), 3);
        Check.found(x, "on(5)", () -> x.on(5), 5);
        Check.due("deals stay", x.count(3), 5);
    }
}
