import java.util.ArrayList;
import java.util.List;

/** Promises 47 to 53: what is told. */
public final class ToldTest {
    private static final String SMALL = "h0h4h8 nA:0-5:2:3 mB:0-6:2:4 lC:4-9:3:5 tA:8-12:2:2";

    public static void main(String[] args) {
        askedByRows();
        askedByVillage();
        askedStays();
        fractions();
        count();
        findings();
        digestOfNothing();
        digest();
        Check.end();
    }

    private static void asked(CoatBetween x, String by, int answer, int want, int told) {
        Check.due(by, answer, want);
        Check.due(by + ", asked()", x.asked(), told);
    }

    private static void askedByRows() {
        CoatBetween x = new CoatBetween();
        Check.due("asked() before", x.asked(), 0);
        x.row(0, 2);
        asked(x, "lay", x.lay(0, 0, 5), 1, 0);
        asked(x, "lay", x.lay(0, 0, 8), 1, 5);
        asked(x, "at", x.at(0, 0), 1, 8);
        asked(x, "mean", x.mean(0), 1, 4);
        asked(x, "at, refused", x.at(0, 2), -3, 4);
        asked(x, "tear", x.tear(0), 1, 4);
        asked(x, "mean, refused", x.mean(0), -3, 4);
    }

    private static void askedByVillage() {
        CoatBetween x = Check.village(SMALL);
        x.deal(0, 1, 0, 7);
        asked(x, "house", x.house(1), 4, 7);
        asked(x, "need", x.need(2, 3), 1, 9);
        Check.lay(x, 0, 0, 1);
        asked(x, "order", x.order(0), 2, 5);
        asked(x, "sets", x.sets(), 12, 12);
        asked(x, "house", x.house(0), 0, 0);
        asked(x, "best", x.best(), 7, 12);
        asked(x, "second", x.second(2), 14, 2);
        asked(x, "wise", x.wise(), 1, 12);
        asked(x, "house", x.house(1), 4, 7);
        asked(x, "call", x.call(1), 12, 12);
        x.deal(1, 1, 2, 3);
        asked(x, "rich", x.rich(), 1, 3);
        x.pocket(1, 55);
        asked(x, "find", x.find(1), 0, 55);
    }

    private static void askedStays() {
        CoatBetween x = Check.village(SMALL);
        Check.write(x, 0, "v");
        x.at(0, 0);
        asked(x, "need", x.need(2, 5), 1, 5);
        asked(x, "text", x.put(0, 0, 'b'), 1118, 5);
        asked(x, "fault", x.fault(3), -9, 5);
        asked(x, "mark", x.mark(2, 2), 12, 5);
        asked(x, "start", x.start(0), 0, 5);
        asked(x, "carry", x.carry(0, 2), 2, 5);
        asked(x, "chance", x.chance(2, 12), 12, 5);
        asked(x, "can", x.can(3), 5, 5);
        asked(x, "first", x.first(3, 0), 1, 5);
        asked(x, "begins", x.begins(0, 1), 3, 5);
        asked(x, "orders", x.orders(3), 2, 5);
        asked(x, "costs", x.costs(0), 0, 5);
        asked(x, "worn", x.worn(1), 3, 5);
        asked(x, "rule", x.rule(0, 1), 12, 5);
        asked(x, "two", x.two(0, 3), 9, 5);
        asked(x, "mends", x.mends(0, 0), 8, 5);
        asked(x, "odds", x.odds(), 1, 5);
        asked(x, "deal", x.deal(0, 0, 0, 9), 0, 5);
        asked(x, "owes", x.owes(0, 1), 0, 5);
        asked(x, "undo", x.undo(0), 1, 5);
        asked(x, "track", x.track(0, 0), 0, 5);
        asked(x, "could", x.could(0), 1, 5);
        asked(x, "liar", x.liar(), -9, 5);
        asked(x, "forget", x.forget(0), 1, 5);
        asked(x, "image", x.image(2), 9, 5);
        asked(x, "on", x.on(2), 1, 5);
        asked(x, "count", x.count(0), 3, 5);
        asked(x, "pocket", x.pocket(0, 1), 1, 5);
        asked(x, "village", x.village(3), 3, 5);
    }

    private static void fractions() {
        CoatBetween x = Check.village("h0h8lA:0-1:2:1lA:0-1:2:1");
        Check.due("upper() before", x.upper(), 0);
        Check.due("lower() before", x.lower(), 1);
        x.chance(0, 6);
        x.chance(1, 6);
        x.odds();
        Check.due("upper() by odds()", x.upper(), 3);
        Check.due("lower() by odds()", x.lower(), 4);
        Check.lay(x, 0, 4, 6);
        Check.due("keep(0)", x.keep(0), 1);
        Check.due("upper() by keep()", x.upper(), 4);
        Check.due("lower() by keep()", x.lower(), 5);
        Check.lay(x, 0, 0, 0);
        x.keep(0);
        Check.due("upper() stays", x.upper(), 4);
        Check.due("lower() stays", x.lower(), 5);
        Check.lay(x, 0, 9, 0);
        Check.due("keep(0)", x.keep(0), 0);
        Check.due("upper() of 0", x.upper(), 0);
        Check.due("lower() of 0", x.lower(), 1);
    }

    private static void count() {
        CoatBetween x = Check.village(SMALL);
        x.deal(0, 1, 0, 7);
        x.deal(0, 1, 0, 7);
        x.pocket(0, 1);
        x.track(0, 1);
        x.track(0, 1);
        x.track(0, 1);
        x.row(0, 0);
        x.row(5, 60);
        x.text(0, 0);
        int[] want = {3, 4, 1, 2, 1, 3, 2, 2};
        for (int what = 0; what <= 7; what++) {
            Check.due("count(" + what + ")", x.count(what), want[what]);
        }
        Check.bad(x, "count(8)", () -> x.count(8));
        Check.bad(x, "count(-1)", () -> x.count(-1));
    }

    private static void findings() {
        CoatBetween x = Check.village("h0nA:0-1:1:1");
        x.row(0, 0);
        int[] wanted = new int[6];
        int[] calls = {5, 1, 2, 3, 4, 1, 1, 3, 2, 2, 2};
        for (int f : calls) {
            int got = f == 1 ? x.tear(1) : f == 2 ? x.at(0, 0) : f == 3 ? x.mark(0, 1) : f == 4 ? x.mean(0) : x.row(0, -1);
            wanted[f]++;
            Check.due("a finding", got, -3);
            Check.due("finding()", x.finding(), f);
            for (int i = 1; i <= 5; i++) {
                Check.due("findings(" + i + ")", x.findings(i), wanted[i]);
            }
        }
        x.row(0, 61);
        Check.due("finding() stays", x.finding(), 2);
        Check.bad(x, "findings(0)", () -> x.findings(0));
        Check.bad(x, "findings(6)", () -> x.findings(6));
        Check.bad(x, "findings(-1)", () -> x.findings(-1));
    }

    private static long mixed(List<Integer> told) {
        long h = 17;
        for (int v : told) {
            h = 31 * h + v;
        }
        return h;
    }

    private static void digestOfNothing() {
        List<Integer> told = new ArrayList<>();
        for (int i = 0; i < 9; i++) {
            told.add(0);
        }
        for (int i = 0; i < 10; i++) {
            told.add(-1);
        }
        Check.due("digest() of nothing", new CoatBetween().digest(), mixed(told));
    }

    private static void digest() {
        CoatBetween x = Check.village(SMALL);
        x.start(2);
        x.chance(2, 3);
        x.deal(0, 1, 0, 9);
        x.deal(1, 1, 2, 4);
        x.deal(3, 0, 1, 2);
        x.pocket(2, 33);
        x.pocket(0, 44);
        x.track(1, 20);
        x.track(2, 5);
        Check.lay(x, 1, 7, -8, Integer.MAX_VALUE);
        x.row(4, 0);
        x.text(0, 2);
        x.put(0, 1, -100);
        x.text(3, 0);
        x.need(0, 5);
        int asked = x.asked();
        List<Integer> told = new ArrayList<>(List.of(3, 4, 1, 3, 2, 2, 2, 2, 2));
        told.addAll(List.of(0, 2, 4, 0, 4, 3, 0, 0, 8, 4, 0, 4));
        told.addAll(List.of(0, 0, 0, 5, 2, 3, 12, 1, 1, 0, 6, 2, 4, 12));
        told.addAll(List.of(2, 2, 4, 9, 3, 5, 3, 5, 0, 8, 12, 2, 2, 12));
        told.addAll(List.of(2, 33, 0, 44, 1, 20, 2, 5));
        told.addAll(List.of(-1, 3, 7, -8, Integer.MAX_VALUE, -1, -1, 0, -1));
        told.addAll(List.of(2, 32, -100, -1, -1, 0));
        Check.due("digest()", x.digest(), mixed(told));
        Check.due("asked() stays", x.asked(), asked);
    }
}
