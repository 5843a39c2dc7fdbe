import java.util.Random;

/**
 * Wild runs of calls: nothing throws, the same calls always give the same answers, and a refused
 * call changes nothing but finding(), findings().
 */
public final class WildTest {
    private static final int CALLS = 46;
    private static final String SIGNS = "hhhnmlwft::--0123456789ABCDEFGHvbncm   ";

    public static void main(String[] args) {
        for (int seed = 0; seed < 400; seed++) {
            run(new Random(seed), new CoatBetween(), new CoatBetween(), "run " + seed);
        }
        Check.end();
    }

    private static void run(Random random, CoatBetween x, CoatBetween y, String run) {
        if (random.nextInt(4) != 0) {
            String text = village(random);
            Check.write(x, 0, text);
            Check.write(y, 0, text);
        }
        for (int i = 0; i < 500; i++) {
            int which = random.nextInt(CALLS);
            int[] a = new int[5];
            for (int k = 0; k < 5; k++) {
                a[k] = number(random);
            }
            long before = x.digest();
            int asked = x.asked();
            long fraction = 31 * x.upper() + x.lower();
            long findings = findings(x);
            int got = call(x, which, a);
            String call = run + ", call " + i + " of kind " + which;
            Check.due(call, call(y, which, a), got);
            if (got < 0 && got >= -6 && which != 44) {
                Check.due(call + ", digest()", x.digest(), before);
                Check.due(call + ", asked()", x.asked(), asked);
                Check.due(call + ", fraction", 31 * x.upper() + x.lower(), fraction);
                Check.due(call + ", findings()", findings(x), findings + (got == -3 ? 1 : 0));
            }
            Check.due(call + ", both alike", y.digest(), x.digest());
        }
    }

    private static String village(Random random) {
        StringBuilder text = new StringBuilder();
        int houses = 1 + random.nextInt(8);
        for (int i = 0; i < houses; i++) {
            text.append('h').append(random.nextInt(16));
        }
        for (int i = random.nextInt(9); i > 0 && text.length() < 108; i--) {
            int from = random.nextInt(28);
            text.append("nmlwft".charAt(random.nextInt(6))).append((char) ('A' + random.nextInt(houses)));
            text.append(':').append(from).append('-').append(from + random.nextInt(28 - from));
            text.append(':').append(1 + random.nextInt(4)).append(':').append(1 + random.nextInt(9));
        }
        return text.toString();
    }

    private static int number(Random random) {
        switch (random.nextInt(16)) {
            case 0:
                return random.nextInt();
            case 1:
                return random.nextBoolean() ? Integer.MAX_VALUE : Integer.MIN_VALUE;
            case 2:
                return -1 - random.nextInt(3);
            case 3:
                return random.nextInt(140);
            case 4:
                return SIGNS.charAt(random.nextInt(SIGNS.length()));
            case 5:
                return random.nextInt(30);
            default:
                return random.nextInt(5);
        }
    }

    private static long findings(CoatBetween x) {
        long sum = 0;
        for (int f = 1; f <= 5; f++) {
            sum += x.findings(f);
        }
        return sum;
    }

    private static int call(CoatBetween x, int which, int[] a) {
        switch (which / 12) {
            case 0:
                return callOfRows(x, which, a);
            case 1:
                return callOfVillage(x, which, a);
            case 2:
                return callOfPlans(x, which, a);
            default:
                return callOfHours(x, which, a);
        }
    }

    private static int callOfRows(CoatBetween x, int which, int[] a) {
        switch (which) {
            case 0:
                return x.row(a[0], a[1]);
            case 1:
                return x.lay(a[0], a[1], a[2]);
            case 2:
                return x.at(a[0], a[1]);
            case 3:
                return x.tear(a[0]);
            case 4:
                return x.copy(a[0], a[1], a[2], a[3], a[4]);
            case 5:
                return x.mean(a[0]);
            case 6:
                return x.text(a[0] == 0 ? 1 : a[0], a[1]);
            case 7:
                return x.put(a[0], a[1], a[2]);
            case 8:
                return x.fault(a[0]);
            case 9:
                return x.village(a[0]);
            case 10:
                return x.order(a[0]);
            default:
                return x.begins(a[0], a[1]);
        }
    }

    private static int callOfVillage(CoatBetween x, int which, int[] a) {
        switch (which) {
            case 12:
                return x.house(a[0]);
            case 13:
                return x.need(a[0], a[1]);
            case 14:
                return x.mark(a[0], a[1]);
            case 15:
                return x.start(a[0]);
            case 16:
                return x.carry(a[0], a[1]);
            case 17:
                return x.chance(a[0], a[1]);
            case 18:
                return x.can(a[0]);
            case 19:
                return x.sets();
            case 20:
                return x.best();
            case 21:
                return x.first(a[0], a[1]);
            case 22:
                return x.orders(a[0]);
            default:
                return x.costs(a[0]);
        }
    }

    private static int callOfPlans(CoatBetween x, int which, int[] a) {
        switch (which) {
            case 24:
                return x.worn(a[0]);
            case 25:
                return x.rule(a[0], a[1]);
            case 26:
                return x.wise();
            case 27:
                return x.second(a[0]);
            case 28:
                return x.two(a[0], a[1]);
            case 29:
                return x.mends(a[0], a[1]);
            case 30:
                return x.odds();
            case 31:
                return x.call(a[0]);
            case 32:
                return x.keep(a[0]);
            case 33:
                return x.deal(a[0], a[1], a[2], a[3]);
            case 34:
                return x.undo(a[0]);
            default:
                return x.owes(a[0], a[1]);
        }
    }

    private static int callOfHours(CoatBetween x, int which, int[] a) {
        switch (which) {
            case 36:
                return x.rich();
            case 37:
                return x.pocket(a[0], a[1]);
            case 38:
                return x.find(a[0]);
            case 39:
                return x.track(a[0], a[1]);
            case 40:
                return x.forget(a[0]);
            case 41:
                return x.could(a[0]);
            case 42:
                return x.liar();
            case 43:
                return x.image(a[0]);
            case 44:
                return x.finding() + x.findings(a[0]) + x.count(a[1]);
            default:
                return x.on(a[0]);
        }
    }
}
