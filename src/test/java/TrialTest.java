import java.math.BigInteger;
import java.util.ArrayList;
import java.util.List;
import java.util.Random;

/** Promises 18 to 33 in villages that come by numbers, against what trying every order tells. */
public final class TrialTest {
    private static final String RULE = "vbncm";

    public static void main(String[] args) {
        for (int seed = 1; seed <= 260; seed++) {
            Random random = new Random(seed);
            Trial trial = village(random);
            CoatBetween x = Check.village(trial.text());
            if (!trial.places.isEmpty()) {
                trial.startHouse = random.nextInt(3) == 0 ? random.nextInt(trial.places.size()) : 0;
                x.start(trial.startHouse);
            }
            trial.tryAll(trial.startHouse);
            String name = trial.text() + " from " + trial.startHouse + ": ";
            sets(name, trial, x);
            plans(name, trial, x);
            rows(name, trial, x, random);
            rules(name, trial, x, random);
            chances(name, trial, x, random);
            if (!trial.places.isEmpty()) {
                secondCoats(name, trial, x);
                mendings(name, trial, x, random);
            }
        }
        Check.end();
    }

    private static Trial village(Random random) {
        Trial trial = new Trial();
        int houses = random.nextInt(9);
        int spread = 1 + random.nextInt(16);
        for (int i = 0; i < houses; i++) {
            trial.places.add(random.nextInt(spread));
        }
        int needs = houses == 0 ? 0 : random.nextInt(9);
        int wide = 1 + random.nextInt(28);
        int plain = random.nextInt(3);
        for (int i = 0; i < needs; i++) {
            int a = random.nextInt(28);
            a = random.nextBoolean() ? a : a / 3;
            int b = Math.min(27, a + random.nextInt(wide));
            int n = 1 + random.nextInt(1 + random.nextInt(4));
            int kind = plain == 0 ? 0 : random.nextInt(6);
            kind = plain == 1 && random.nextBoolean() ? 2 * random.nextInt(2) : kind;
            trial.jobs.add(new Trial.Job(kind, random.nextInt(houses), a, b, n, 1 + random.nextInt(9)));
        }
        while (trial.text().length() > 120) {
            trial.jobs.remove(trial.jobs.size() - 1);
        }
        return trial;
    }

    private static void sets(String name, Trial trial, CoatBetween x) {
        int number = 0;
        int most = 0;
        for (int set = 0; set < trial.ends.length; set++) {
            int tested = set;
            Check.due(name + "can(" + set + ")", x.can(set), trial.ends[set]);
            Check.due(name + "orders(" + set + ")", x.orders(set), trial.numbers[set]);
            if (trial.ends[set] == -9) {
                Check.due(name + "worn(" + set + ")", x.worn(set), -9);
                Check.due(name + "first(" + set + ", 2)", x.first(tested, 2), -9);
                continue;
            }
            number++;
            most = Math.max(most, trial.worth(set));
            List<Integer> line = trial.firsts.get(set);
            Check.due(name + "first(" + set + ", 1)", x.first(set, 1), 1);
            Check.rowIs(x, name + "first(" + set + ", 1)", 1, ints(line));
            int worn = 0;
            for (int i = 0; i < line.size(); i++) {
                for (int watch = 0; watch < trial.jobs.get(line.get(i)).n; watch++) {
                    worn |= 1 << trial.firstBegins.get(set).get(i) + watch;
                }
            }
            Check.due(name + "worn(" + set + ")", x.worn(set), worn);
        }
        Check.due(name + "sets()", x.sets(), number);
        Check.due(name + "sets(), asked()", x.asked(), most);
        Check.bad(x, name + "can", () -> x.can(trial.ends.length));
        Check.bad(x, name + "orders", () -> x.orders(trial.ends.length));
    }

    private static int[] ints(List<Integer> line) {
        int[] ints = new int[line.size()];
        for (int i = 0; i < ints.length; i++) {
            ints[i] = line.get(i);
        }
        return ints;
    }

    private static void plans(String name, Trial trial, CoatBetween x) {
        int best = trial.best(0, -1);
        Check.due(name + "best()", x.best(), best);
        if (best != -9) {
            Check.due(name + "best(), asked()", x.asked(), trial.worth(best));
        }
        for (int i = 0; i < trial.jobs.size(); i++) {
            int without = trial.best(1 << i, i);
            boolean isNone = best == -9 || without == -9;
            int costs = isNone ? -9 : trial.worth(without) - trial.worth(best & ~(1 << i));
            Check.due(name + "costs(" + i + ")", x.costs(i), costs);
            for (int j = 0; j < trial.jobs.size(); j++) {
                if (i != j) {
                    Check.due(name + "two(" + i + ", " + j + ")", x.two(i, j), trial.two(i, j));
                }
            }
        }
        Check.due(name + "best() behind two()", x.best(), best);
    }

    private static void rows(String name, Trial trial, CoatBetween x, Random random) {
        for (int number = 0; number < 6; number++) {
            List<Integer> line = new ArrayList<>();
            for (int i = 0; i < trial.jobs.size(); i++) {
                line.add(random.nextInt(line.size() + 1), i);
            }
            while (!line.isEmpty() && random.nextInt(4) == 0) {
                line.remove(0);
            }
            Check.lay(x, 0, ints(line));
            int free = 0;
            int house = trial.startHouse;
            int met = 0;
            boolean goesOn = true;
            for (int i = 0; i < line.size(); i++) {
                Trial.Job job = trial.jobs.get(line.get(i));
                int begin = goesOn ? trial.begin(job, house, free) : -1;
                goesOn = begin >= 0;
                Check.due(name + "begins " + line + " " + i, x.begins(0, i), goesOn ? begin : -9);
                if (goesOn) {
                    met++;
                    free = begin + job.n;
                    house = job.house;
                }
            }
            Check.due(name + "order " + line, x.order(0), met);
            Check.due(name + "order, asked()", x.asked(), free);
        }
    }

    private static void rules(String name, Trial trial, CoatBetween x, Random random) {
        for (int number = 0; number < 8; number++) {
            StringBuilder letters = new StringBuilder();
            for (int i = random.nextInt(4); i >= 0; i--) {
                letters.append(RULE.charAt(random.nextInt(5)));
            }
            Check.write(x, 2, letters.toString());
            List<Integer> line = trial.byRule(letters.toString());
            Check.due(name + "rule " + letters, x.rule(2, 5), trial.worthOf(line));
            Check.rowIs(x, name + "rule " + letters, 5, ints(line));
        }
        int wisest = -1;
        int most = -1;
        for (int number = 0; number < 30; number++) {
            int one = (number - 5) / 5;
            int other = (number - 5) % 5;
            if (number >= 5 && one == other) {
                continue;
            }
            String letters = number < 5 ? RULE.substring(number, number + 1)
                : "" + RULE.charAt(one) + RULE.charAt(other);
            int worth = trial.worthOf(trial.byRule(letters));
            if (worth > most) {
                most = worth;
                wisest = number;
            }
        }
        Check.due(name + "wise()", x.wise(), wisest);
        Check.due(name + "wise(), asked()", x.asked(), most);
    }

    private static void chances(String name, Trial trial, CoatBetween x, Random random) {
        int lots = 0;
        for (int i = 0; i < trial.jobs.size(); i++) {
            if (trial.jobs.get(i).isLot()) {
                lots |= 1 << i;
                trial.jobs.get(i).chance = random.nextInt(13);
                Check.due(name + "chance(" + i + ")", x.chance(i, trial.jobs.get(i).chance), 12);
            }
        }
        odds(name, trial, x, lots);
        for (int number = 0; number < 8; number++) {
            int seed = number == 0 ? 1 : number == 1 ? 2147483646 : 1 + random.nextInt(2147483646);
            BigInteger next = BigInteger.valueOf(seed);
            int called = 0;
            for (int i = 0; i < trial.jobs.size(); i++) {
                next = next.multiply(BigInteger.valueOf(48271)).mod(BigInteger.valueOf(2147483647));
                int rest = next.mod(BigInteger.valueOf(12)).intValue();
                called |= trial.jobs.get(i).isLot() && rest < trial.jobs.get(i).chance ? 1 << i : 0;
            }
            int plan = trial.best(lots & ~called, -1);
            Check.due(name + "call(" + seed + ")", x.call(seed), called);
            Check.due(name + "call(), asked()", x.asked(), plan == -9 ? -9 : trial.worth(plan));
        }
    }

    private static void odds(String name, Trial trial, CoatBetween x, int lots) {
        BigInteger upper = BigInteger.ZERO;
        BigInteger lower = BigInteger.valueOf(12).pow(Integer.bitCount(lots));
        for (int set = 0; set < trial.ends.length; set++) {
            BigInteger ways = BigInteger.ONE;
            int wanted = 0;
            for (int i = 0; i < trial.jobs.size(); i++) {
                Trial.Job job = trial.jobs.get(i);
                boolean isIn = (set >> i & 1) == 1;
                if (job.isLot()) {
                    ways = ways.multiply(BigInteger.valueOf(isIn ? job.chance : 12 - job.chance));
                }
                wanted |= job.isMust() || job.isLot() && isIn ? 1 << i : 0;
            }
            if (wanted == set && trial.ends[set] != -9) {
                upper = upper.add(ways);
            }
        }
        BigInteger divisor = upper.gcd(lower);
        Check.due(name + "odds()", x.odds(), 1);
        Check.due(name + "upper()", x.upper(), upper.divide(divisor).longValueExact());
        Check.due(name + "lower()", x.lower(), lower.divide(divisor).longValueExact());
    }

    private static void secondCoats(String name, Trial trial, CoatBetween x) {
        int best = trial.best(0, -1);
        for (int h = 0; h < trial.places.size(); h++) {
            int most = trial.second(h);
            x.house(0);
            int before = x.asked();
            Check.due(name + "second(" + h + ")", x.second(h), most);
            int more = best == -9 ? most : most - trial.worth(best);
            Check.due(name + "second(), asked()", x.asked(), most == -9 ? before : more);
        }
        trial.tryAll(trial.startHouse);
    }

    private static void mendings(String name, Trial trial, CoatBetween x, Random random) {
        for (int number = 0; number < 5; number++) {
            int set = random.nextInt(trial.ends.length);
            while (Integer.bitCount(set) > 4) {
                set &= set - 1;
            }
            int house = random.nextInt(trial.places.size());
            int want = trial.ends[set] == -9 ? -9 : trial.mends(set, house);
            Check.due(name + "mends(" + set + ", " + house + ")", x.mends(set, house), want);
        }
    }
}
