import java.util.ArrayList;
import java.util.Comparator;
import java.util.List;

/** A village worked out by trying every order: slow, and written apart from the program. */
final class Trial {
    static final String LETTERS = "nmlwft";

    static final class Job {
        int kind;
        int house;
        int a;
        int b;
        int n;
        int v;
        int chance = 12;
        /** Two in it: begins whenever it can, whatever its kind. */
        boolean isFree;

        Job(int kind, int house, int a, int b, int n, int v) {
            this.kind = kind;
            this.house = house;
            this.a = a;
            this.b = b;
            this.n = n;
            this.v = v;
        }

        boolean isMust() {
            return kind == 1 || kind == 3 || kind == 4;
        }

        boolean isLot() {
            return kind == 2 || kind == 5;
        }
    }

    final List<Integer> places = new ArrayList<>();
    final List<Job> jobs = new ArrayList<>();
    int startHouse;

    int[] ends;
    int[] numbers;
    List<List<Integer>> firsts;
    List<List<Integer>> firstBegins;

    String text() {
        StringBuilder text = new StringBuilder();
        for (int place : places) {
            text.append('h').append(place);
        }
        for (Job job : jobs) {
            text.append(LETTERS.charAt(job.kind)).append((char) ('A' + job.house)).append(':').append(job.a);
            text.append('-').append(job.b).append(':').append(job.n).append(':').append(job.v);
        }
        return text.toString();
    }

    int carry(int h, int k) {
        return Math.abs(places.get(h) - places.get(k)) / 4;
    }

    /** When a job begins for a coat free at a house; -1: it can't be met. */
    int begin(Job job, int house, int free) {
        int begin = Math.max(job.a, free + carry(house, job.house));
        boolean onTime = true;
        if (!job.isFree && (job.kind == 3 || job.kind == 5)) {
            onTime = begin == job.a;
        }
        if (!job.isFree && job.kind == 4) {
            onTime = begin == job.a || begin == job.a + 1;
        }
        return onTime && begin + job.n - 1 <= job.b ? begin : -1;
    }

    void tryAll(int fromHouse) {
        int sets = 1 << jobs.size();
        ends = new int[sets];
        numbers = new int[sets];
        firsts = new ArrayList<>();
        firstBegins = new ArrayList<>();
        for (int set = 0; set < sets; set++) {
            ends[set] = -9;
            firsts.add(null);
            firstBegins.add(null);
        }
        goOn(0, fromHouse, 0, new ArrayList<>(), new ArrayList<>());
    }

    private void goOn(int set, int house, int free, List<Integer> line, List<Integer> begins) {
        numbers[set]++;
        if (ends[set] == -9 || free < ends[set]) {
            ends[set] = free;
        }
        if (firsts.get(set) == null) {
            firsts.set(set, new ArrayList<>(line));
            firstBegins.set(set, new ArrayList<>(begins));
        }
        for (int i = 0; i < jobs.size(); i++) {
            Job job = jobs.get(i);
            int begin = (set >> i & 1) == 1 ? -1 : begin(job, house, free);
            if (begin >= 0) {
                line.add(i);
                begins.add(begin);
                goOn(set | 1 << i, job.house, begin + job.n, line, begins);
                line.remove(line.size() - 1);
                begins.remove(begins.size() - 1);
            }
        }
    }

    int worth(int set) {
        int worth = 0;
        for (int i = 0; i < jobs.size(); i++) {
            worth += (set >> i & 1) * jobs.get(i).v;
        }
        return worth;
    }

    boolean hasAllMust(int set, int besides) {
        for (int i = 0; i < jobs.size(); i++) {
            if (jobs.get(i).isMust() && (set >> i & 1) == 0 && i != besides) {
                return false;
            }
        }
        return true;
    }

    /** The best plan without some needs, and where one need is no must; -9: there is none. */
    int best(int without, int noMust) {
        int best = -9;
        for (int set = 0; set < ends.length; set++) {
            boolean isPlan = ends[set] != -9 && (set & without) == 0 && hasAllMust(set, noMust);
            if (isPlan && (best == -9 || worth(set) > worth(best))) {
                best = set;
            }
        }
        return best;
    }

    int second(int house) {
        tryAll(house);
        int[] others = ends;
        tryAll(startHouse);
        int most = -9;
        for (int set = 0; set < ends.length; set++) {
            for (int other = 0; other < ends.length; other++) {
                boolean isOne = (set & other) == 0 && ends[set] != -9 && others[other] != -9;
                if (isOne && hasAllMust(set | other, -1)) {
                    most = Math.max(most, worth(set | other));
                }
            }
        }
        return most;
    }

    int two(int i, int j) {
        Job one = jobs.get(Math.min(i, j));
        Job other = jobs.get(Math.max(i, j));
        if (one.n != other.n || carry(one.house, other.house) != 0) {
            return -9;
        }
        Trial joined = new Trial();
        joined.places.addAll(places);
        joined.startHouse = startHouse;
        for (Job job : jobs) {
            if (job == one) {
                Job both = new Job(one.isMust() || other.isMust() ? 1 : 0, one.house,
                    Math.max(one.a, other.a), Math.min(one.b, other.b), one.n, one.v + other.v);
                both.isFree = true;
                joined.jobs.add(both);
            } else if (job != other) {
                joined.jobs.add(job);
            }
        }
        joined.tryAll(startHouse);
        int best = joined.best(0, -1);
        return best == -9 ? -9 : joined.worth(best);
    }

    /** The most mendings besides a set, by trying mendings as needs of their own. */
    int mends(int set, int house) {
        return mend(set, startHouse, 0, house, 0);
    }

    private int mend(int rest, int house, int free, int mendHouse, int mended) {
        int most = rest == 0 ? mended : -9;
        for (int i = 0; i < jobs.size(); i++) {
            int begin = (rest >> i & 1) == 0 ? -1 : begin(jobs.get(i), house, free);
            if (begin >= 0) {
                int end = begin + jobs.get(i).n;
                most = Math.max(most, mend(rest & ~(1 << i), jobs.get(i).house, end, mendHouse, mended));
            }
        }
        int begin = free + carry(house, mendHouse);
        if (mended < 8 && begin <= 27) {
            most = Math.max(most, mend(rest, mendHouse, begin + 1, mendHouse, mended + 1));
        }
        return most;
    }

    List<Integer> byRule(String rule) {
        List<Integer> line = new ArrayList<>();
        int house = startHouse;
        int free = 0;
        while (true) {
            List<Integer> open = new ArrayList<>();
            for (int i = 0; i < jobs.size(); i++) {
                if (!line.contains(i) && begin(jobs.get(i), house, free) >= 0) {
                    open.add(i);
                }
            }
            if (open.isEmpty()) {
                return line;
            }
            open.sort(byLetters(rule, house));
            Job next = jobs.get(open.get(0));
            line.add(open.get(0));
            free = begin(next, house, free) + next.n;
            house = next.house;
        }
    }

    private Comparator<Integer> byLetters(String rule, int house) {
        Comparator<Integer> order = (i, k) -> 0;
        for (char letter : rule.toCharArray()) {
            order = order.thenComparingInt(i -> rank(letter, jobs.get(i), house));
        }
        return order.thenComparingInt(i -> i);
    }

    private int rank(char letter, Job job, int house) {
        switch (letter) {
            case 'v':
                return -job.v;
            case 'b':
                return job.b;
            case 'n':
                return job.n;
            case 'c':
                return carry(house, job.house);
            default:
                return job.isMust() ? -1 : 0;
        }
    }

    int worthOf(List<Integer> line) {
        int worth = 0;
        for (int i : line) {
            worth += jobs.get(i).v;
        }
        return worth;
    }
}
