import java.util.Arrays;

/** What is still taken at each edge that the document names, and what comes just behind it. */
public final class EdgesTest {
    private static final int MOST = Integer.MAX_VALUE;
    private static final int LEAST = Integer.MIN_VALUE;
    private static final String FULL_TEXT = "h0h15h7 nA:0-27:1:1 mB:10-10:1:9  lC:9-10:2:5 wA:00-03:4:1"
        + " fB:27-27:1:2 tC:5-8:3:3 nC:11-20:4:4 lB:03-3:1:1 h3h4h5h15h00";

    public static void main(String[] args) {
        allRows();
        allTexts();
        copies();
        means();
        bytes();
        everyEnd();
        everyWrongSign();
        everyBlankWithin();
        everyFirstSign();
        everyHouseLetter();
        theFirstOfTwo();
        numbersOfHouses();
        numbersOfNeeds();
        fullVillage();
        emptyVillage();
        Check.end();
    }

    // ---- promises 2 to 9

    private static void allRows() {
        CoatBetween x = new CoatBetween();
        for (int r = 0; r < 6; r++) {
            Check.due("row(" + r + ", 60)", x.row(r, 60), 60);
            Check.due("count(6)", x.count(6), r + 1);
            Check.due("lay at the last place", x.lay(r, 59, 100 + r), 1);
            Check.due("lay at the first place", x.lay(r, 0, -100 - r), 1);
        }
        for (int r = 0; r < 6; r++) {
            Check.due("at the first place of " + r, x.at(r, 0) * x.asked(), -100 - r);
            Check.due("at the last place of " + r, x.at(r, 59) * x.asked(), 100 + r);
            Check.found(x, "at behind the last place of " + r, () -> x.at(0, 60), 2);
        }
        Check.due("row(3, 60) anew", x.row(3, 60), 60);
        for (int i = 0; i < 60; i++) {
            x.at(3, i);
            Check.due("it is 0 at " + i, x.asked(), 0);
        }
        Check.due("row(3, 0)", x.row(3, 0), 0);
        Check.due("a row of no place is there", x.count(6), 6);
        Check.due("tear(3)", x.tear(3), 1);
        Check.due("one is missing", x.count(6), 5);
        Check.due("the next one is not", x.at(4, 59) * x.asked(), 104);
        Check.lay(x, 3, MOST, LEAST);
        Check.rowIs(x, "ints at their edges", 3, MOST, LEAST);
        CoatBetween torn = new CoatBetween();
        torn.row(2, 7);
        torn.tear(2);
        Check.due("a torn row is missing as at first", torn.digest(), new CoatBetween().digest());
    }

    private static void allTexts() {
        CoatBetween x = new CoatBetween();
        for (int t = 0; t < 4; t++) {
            Check.due("text(" + t + ", 120)", x.text(t, 120), 120);
            Check.due("count(7)", x.count(7), t + 1);
            Check.due("put at the last place", x.put(t, 119, 60 + t), 1032);
            Check.due("put at the first place", x.put(t, 0, 70 + t), 1032);
        }
        for (int t = 0; t < 4; t++) {
            Check.due("at the first place of " + t, x.put(t, 0, 32), 1070 + t);
            Check.due("at the last place of " + t, x.put(t, 119, 32), 1060 + t);
        }
        x.put(2, 5, 1);
        Check.due("text(2, 120) anew", x.text(2, 120), 120);
        for (int i = 0; i < 120; i++) {
            Check.due("it is a blank at " + i, x.put(2, i, 32), 1032);
        }
        Check.due("text(2, 0)", x.text(2, 0), 0);
        Check.due("a text of no place is there", x.count(7), 4);
        Check.due("it has no fault", x.fault(2), -9);
        Check.due("it is a village", x.village(2), 0);
        Check.refused(x, "it is no rule", () -> x.rule(2, 0), -4);
    }

    private static void copies() {
        CoatBetween x = new CoatBetween();
        x.row(0, 60);
        x.row(1, 60);
        for (int i = 0; i < 60; i++) {
            x.lay(0, i, i + 1);
        }
        Check.due("copy of all 60", x.copy(0, 0, 1, 0, 60), 1);
        Check.due("copy of 59, up by one", x.copy(0, 0, 0, 1, 59), 1);
        Check.due("copy of 59, down by one", x.copy(1, 1, 1, 0, 59), 1);
        for (int i = 0; i < 60; i++) {
            x.at(0, i);
            Check.due("up at " + i, x.asked(), Math.max(1, i));
            x.at(1, i);
            Check.due("down at " + i, x.asked(), Math.min(60, i + 2));
        }
        long before = x.digest();
        Check.due("copy of all onto itself", x.copy(0, 0, 0, 0, 60), 1);
        Check.due("copy of none at both ends", x.copy(0, 60, 1, 60, 0), 1);
        Check.due("copy of none at both beginnings", x.copy(0, 0, 1, 0, 0), 1);
        Check.due("copy of none from the end to the beginning", x.copy(1, 60, 1, 0, 0), 1);
        Check.due("nothing is changed", x.digest(), before);
        Check.due("copy of the last one", x.copy(1, 59, 0, 59, 1), 1);
        Check.due("it came", x.at(0, 59) * x.asked(), 60);
        x.row(2, 0);
        Check.due("copy of none between none", x.copy(2, 0, 2, 0, 0), 1);
    }

    private static void meanIs(int want, int... ints) {
        CoatBetween x = new CoatBetween();
        Check.lay(x, 0, ints);
        Check.due("mean of " + ints.length + " from " + ints[0], x.mean(0), 1);
        Check.due("it is", x.asked(), want);
    }

    private static void means() {
        int[] sixty = new int[60];
        Arrays.fill(sixty, MOST);
        meanIs(MOST, sixty);
        sixty[30] = MOST - 1;
        meanIs(MOST - 1, sixty);
        Arrays.fill(sixty, LEAST);
        meanIs(LEAST, sixty);
        sixty[59] = LEAST + 1;
        meanIs(LEAST + 1, sixty);
        meanIs(0, MOST, LEAST);
        meanIs(0, 1, 0);
        meanIs(0, -1, 0);
        meanIs(1, 1, 2);
        meanIs(-1, -1, -2);
        meanIs(0, 0);
    }

    private static void bytes() {
        CoatBetween x = new CoatBetween();
        x.text(0, 1);
        int[] ints = {0, 127, 128, 255, 256, -1, -128, -129, -256, MOST, LEAST, 65536 + 200, 104};
        int[] cut = {0, 127, -128, -1, 0, -1, -128, 127, 0, -1, 0, -56, 104};
        int was = 32;
        for (int i = 0; i < ints.length; i++) {
            Check.due("put(0, 0, " + ints[i] + ")", x.put(0, 0, ints[i]), 1000 + was);
            was = cut[i];
        }
        Check.due("at last", x.put(0, 0, 0), 1104);
    }

    // ---- promise 10

    private static void faultIs(String text, int want) {
        CoatBetween x = new CoatBetween();
        Check.write(x, 2, text);
        Check.due("fault of '" + text + "'", x.fault(2), want);
        Check.due("village of '" + text + "'", x.village(2) == -4 ? 1 : 0, want == -9 ? 0 : 1);
    }

    private static boolean isWithinItem(int place) {
        return FULL_TEXT.substring(0, place).matches(".*([nmlwft][^ ]{0,}|h)")
            && !FULL_TEXT.substring(0, place).matches(".*[nmlwft].:[0-9]+-[0-9]+:[0-9]:[0-9]");
    }

    private static void everyEnd() {
        Check.due("the text is full", FULL_TEXT.length(), 120);
        faultIs(FULL_TEXT, -9);
        for (int end = 0; end < 120; end++) {
            faultIs(FULL_TEXT.substring(0, end), isWithinItem(end) ? end : -9);
        }
    }

    private static void everyWrongSign() {
        for (int place = 0; place < 120; place++) {
            StringBuilder text = new StringBuilder(FULL_TEXT);
            text.setCharAt(place, '#');
            faultIs(text.toString(), place);
        }
    }

    private static void everyBlankWithin() {
        for (int place = 0; place < 119; place++) {
            char sign = FULL_TEXT.charAt(place);
            boolean isHouseFigure = place >= 2 && FULL_TEXT.substring(place - 2, place + 1).matches("h[0-9][0-9]");
            // The last sign goes, for there is room for 120 only.
            String text = FULL_TEXT.substring(0, place) + " " + FULL_TEXT.substring(place, 119);
            if (isHouseFigure) {
                faultIs(text, place + 1);
            } else if (sign != ' ' && isWithinItem(place)) {
                faultIs(text, place);
            }
        }
    }

    private static void everyFirstSign() {
        CoatBetween x = new CoatBetween();
        x.text(0, 1);
        for (int sign = -128; sign < 128; sign++) {
            x.put(0, 0, sign);
            int want = sign == ' ' ? -9 : sign == 'h' || sign > 0 && "nmlwft".indexOf(sign) >= 0 ? 1 : 0;
            Check.due("fault of the sign " + sign, x.fault(0), want);
        }
    }

    private static void everyHouseLetter() {
        for (int houses = 0; houses <= 8; houses++) {
            String text = "h5".repeat(houses) + "n?:0-9:1:1";
            CoatBetween x = new CoatBetween();
            Check.write(x, 0, text);
            int place = 2 * houses + 1;
            for (int letter = -128; letter < 128; letter++) {
                x.put(0, place, letter);
                boolean isTold = letter >= 65 && letter < 65 + houses;
                Check.due(houses + " houses, fault by the letter " + letter, x.fault(0), isTold ? -9 : place);
            }
        }
        faultIs("h0nB:0-9:1:1h4", 3);
        faultIs("h0h4nB:0-9:1:1", -9);
    }

    /** A FAULT is the first place, whatever comes behind it. */
    private static void theFirstOfTwo() {
        faultIs("h16h99", 3);
        faultIs("h16 q", 3);
        faultIs("q h16", 0);
        faultIs("h0nA:5-4:9:1", 8);
        faultIs("h0nA:5-4:1:0", 8);
        faultIs("h0nA:5-4#", 8);
        faultIs("h0nA:5-4:1:1 q", 8);
        faultIs("h0nA:28-4:9:0", 7);
        faultIs("h0nA:5-28:9:0", 9);
        faultIs("h0nA:5-9:5:0", 9);
        faultIs("h0nB:99-9:5:0", 3);
        faultIs("h0nA#99-9:5:0", 4);
        faultIs("h0nA:99#9:5:0", 7);
        faultIs("h0nA:9#99:5:0", 6);
        faultIs("h0nA:5-9#5:0", 8);
        faultIs("h0nA:5-9:4#0", 10);
        faultIs("h0nA:5-9:4:0h16", 11);
        faultIs("h1".repeat(9) + "h16", 16);
        faultIs("h1".repeat(8) + "h16", 16);
        faultIs("h0" + "nA:5-9:4:1".repeat(8) + "nB#", 82);
    }

    private static void numbersOfHouses() {
        for (int number = 0; number < 100; number++) {
            String two = (number < 10 ? "0" : "") + number;
            faultIs("h" + number, number <= 15 ? -9 : 3);
            faultIs("h" + two, number <= 15 ? -9 : 3);
            faultIs("h" + number + " h3", number <= 15 ? -9 : 3);
            faultIs("h" + two + "1", 3);
        }
        CoatBetween x = Check.village("h00h7h07h15");
        int[] places = {0, 7, 7, 15};
        for (int h = 0; h < 4; h++) {
            Check.due("house(" + h + ")", x.house(h), places[h]);
        }
    }

    private static void numbersOfNeeds() {
        for (int a = 0; a < 100; a++) {
            String first = "h0nA:" + a;
            faultIs(first + "-27:1:1", a <= 27 ? -9 : 7);
            for (int b = 0; b < 100; b += a < 28 ? 1 : 30) {
                int place = first.length() + 1 + (b < 10 ? 1 : 2);
                boolean fits = a <= 27 && b <= 27 && a <= b;
                faultIs(first + "-" + b + ":1:1", fits ? -9 : a > 27 ? 7 : place);
            }
        }
        for (int sign = 33; sign < 127; sign++) {
            faultIs("h0nA:0-9:" + (char) sign + ":1", sign >= '1' && sign <= '4' ? -9 : 9);
            faultIs("h0nA:0-9:1:" + (char) sign, sign >= '1' && sign <= '9' ? -9 : 11);
        }
    }

    // ---- promises 11 to 17, full and empty

    private static void fullVillage() {
        CoatBetween x = Check.village(FULL_TEXT);
        Check.due("houses", x.count(0), 8);
        Check.due("needs", x.count(1), 8);
        Check.due("musts", x.count(2), 3);
        int[] places = {0, 15, 7, 3, 4, 5, 15, 0};
        for (int h = 0; h < 8; h++) {
            Check.due("house(" + h + ")", x.house(h), places[h]);
        }
        int[][] needs = {{0, 0, 0, 27, 1, 1}, {1, 1, 10, 10, 1, 9}, {2, 2, 9, 10, 2, 5}, {3, 0, 0, 3, 4, 1},
            {4, 1, 27, 27, 1, 2}, {5, 2, 5, 8, 3, 3}, {0, 2, 11, 20, 4, 4}, {2, 1, 3, 3, 1, 1}};
        for (int i = 0; i < 8; i++) {
            for (int what = 0; what <= 5; what++) {
                Check.due("need(" + i + ", " + what + ")", x.need(i, what) * x.asked(), needs[i][what]);
            }
        }
        Check.due("start(7)", x.start(7), 0);
        Check.due("start(0)", x.start(0), 7);
        Check.due("carry(7, 6)", x.carry(7, 6), 3);
        Check.due("chance(7, 0)", x.chance(7, 0), 12);
        Check.due("mark(7, 2)", x.mark(7, 2), 0);
        Check.due("a fire once", x.mark(4, 4), 1);
        Check.bad(x, "house(8)", () -> x.house(8));
        Check.bad(x, "need(8, 0)", () -> x.need(8, 0));
        Check.bad(x, "can(256)", () -> x.can(256));
    }

    private static void emptyVillage() {
        CoatBetween x = Check.village(FULL_TEXT);
        x.start(3);
        x.deal(0, 2, 2, 9);
        x.pocket(2, 2);
        x.track(2, 2);
        x.text(0, 0);
        Check.due("a village of nothing", x.village(0), 0);
        for (int what = 0; what <= 5; what++) {
            Check.due("count(" + what + ")", x.count(what), 0);
        }
        Check.bad(x, "house(0)", () -> x.house(0));
        Check.bad(x, "start(0)", () -> x.start(0));
        Check.bad(x, "can(1)", () -> x.can(1));
        Check.due("can(0)", x.can(0), 0);
        Check.due("undo(0)", x.undo(0), 0);
        Check.due("forget(0)", x.forget(0), 0);
        Check.due("could(0)", x.could(0), 0);
        Check.refused(x, "rich()", x::rich, -4);
        CoatBetween y = new CoatBetween();
        Check.write(y, 3, FULL_TEXT);
        y.text(0, 0);
        Check.due("as one that never was another", x.digest(), y.digest());
    }
}
