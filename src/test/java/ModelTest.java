import java.lang.reflect.Method;
import java.util.ArrayList;
import java.util.Collections;
import java.util.List;
import java.util.Random;

/**
 * Wild runs of at most 512 calls, with the edges of every number among them, against Model: each
 * answer, and all that is told after it, refused calls too.
 */
public final class ModelTest {
    private static final int RUNS = 1500;
    private static final int CALLS = 512;

    /** Each call, and of what its numbers are: see number(). */
    private static final String[] FACE = {
        "row rz", "lay riv", "at ri", "tear r", "copy rirjm", "mean r", "text tZ", "put tIb", "fault t",
        "village t", "house h", "need nw", "mark nk", "start h", "carry hh", "chance np", "order r",
        "begins ri", "can s", "sets ", "best ", "first sr", "orders s", "costs n", "worn s", "rule tr",
        "wise ", "second h", "two nn", "mends sh", "odds ", "call c", "keep r", "deal dhhe", "undo D",
        "owes hh", "rich ", "pocket hT", "find h", "track hW", "forget F", "could W", "liar ", "image r",
        "on r", "asked ", "upper ", "lower ", "count w", "finding ", "findings w", "digest "};

    private final Random random;
    private final String run;
    private final CoatBetween x = new CoatBetween();
    private final Model model = new Model();
    private int calls;

    private ModelTest(int seed) {
        random = new Random(seed);
        run = "run " + seed;
    }

    public static void main(String[] args) throws ReflectiveOperationException {
        for (int seed = 0; seed < RUNS; seed++) {
            new ModelTest(seed).go();
        }
        Check.end();
    }

    private void go() throws ReflectiveOperationException {
        while (calls < CALLS - 140) {
            switch (random.nextInt(14)) {
                case 0:
                    newVillage();
                    break;
                case 1:
                    write(letters("vbncm", 1 + random.nextInt(5)));
                    break;
                case 2:
                    lay(someOrder());
                    break;
                case 3:
                    lay(parts(model.count(0), 100));
                    break;
                case 4:
                    lay(parts(model.count(0) * model.count(0), 10000));
                    break;
                default:
                    anyCall();
                    allThatIsTold();
                    break;
            }
        }
        for (int f = 1; f <= 5; f++) {
            both("findings", f);
        }
        both("upper");
        both("lower");
    }

    /** Makes one call of both, and tells where their answers part. */
    private long both(String name, int... numbers) throws ReflectiveOperationException {
        Class<?>[] types = new Class<?>[numbers.length];
        Object[] given = new Object[numbers.length];
        StringBuilder told = new StringBuilder();
        for (int i = 0; i < numbers.length; i++) {
            types[i] = int.class;
            given[i] = numbers[i];
            told.append(i == 0 ? "" : ", ").append(numbers[i]);
        }
        Method asked = CoatBetween.class.getMethod(name, types);
        Method due = Model.class.getMethod(name, types);
        calls++;
        long got = ((Number) asked.invoke(x, given)).longValue();
        Check.due(run + ", call " + calls + ": " + name + "(" + told + ")", got,
            ((Number) due.invoke(model, given)).longValue());
        return got;
    }

    private void allThatIsTold() throws ReflectiveOperationException {
        both("digest");
        both("asked");
        both("finding");
    }

    private void anyCall() throws ReflectiveOperationException {
        String call = FACE[random.nextInt(FACE.length)];
        int space = call.indexOf(' ');
        int[] numbers = new int[call.length() - space - 1];
        for (int i = 0; i < numbers.length; i++) {
            numbers[i] = number(call.charAt(space + 1 + i));
        }
        both(call.substring(0, space), numbers);
    }

    private int number(char of) {
        int wild = random.nextInt(40);
        if (wild == 0) {
            return random.nextInt();
        }
        if (wild == 1) {
            return random.nextBoolean() ? Integer.MAX_VALUE : Integer.MIN_VALUE;
        }
        switch (of) {
            case 'r':
                return edgy(0, random.nextInt(3) == 0 ? 5 : 1);
            case 't':
                return edgy(0, random.nextInt(3) == 0 ? 3 : 0);
            case 'z':
                return edgy(0, random.nextInt(3) == 0 ? 60 : 8);
            case 'Z':
                return edgy(0, random.nextInt(3) == 0 ? 120 : 4);
            case 'i':
            case 'j':
            case 'm':
                return edgy(0, random.nextInt(3) == 0 ? 60 : 8);
            case 'I':
                return edgy(0, random.nextInt(3) == 0 ? 120 : 4);
            case 'h':
                return edgy(0, model.count(0) - 1);
            case 'n':
                return edgy(0, model.count(1) - 1);
            case 's':
                return edgy(0, (1 << model.count(1)) - 1);
            case 'w':
                return edgy(0, 7);
            default:
                return rarerNumber(of);
        }
    }

    private int rarerNumber(char of) {
        switch (of) {
            case 'k':
                return edgy(1, 5);
            case 'p':
                return edgy(0, 12);
            case 'c':
                return random.nextInt(3) == 0 ? edgy(1, 2147483646) : 1 + random.nextInt(100);
            case 'd':
                return edgy(0, random.nextBoolean() ? 0 : 4);
            case 'e':
                return random.nextBoolean() ? 1 + random.nextInt(9) : edgy(1, 99);
            case 'D':
                return edgy(0, model.count(3));
            case 'F':
                return edgy(0, model.count(5));
            case 'T':
                return edgy(0, 99);
            case 'W':
                return edgy(0, 27);
            case 'b':
                return random.nextInt(600) - 300;
            default:
                return random.nextInt(400) - 200;
        }
    }

    /** Mostly from least to most, sometimes just there, or just beyond. */
    private int edgy(int least, int most) {
        switch (random.nextInt(10)) {
            case 0:
                return least - random.nextInt(2);
            case 1:
                return most < Integer.MAX_VALUE ? most + random.nextInt(2) : most;
            default:
                return least + random.nextInt(Math.max(1, most - least + 1));
        }
    }

    private String letters(String of, int number) {
        StringBuilder letters = new StringBuilder();
        for (int i = 0; i < number; i++) {
            letters.append(of.charAt(random.nextInt(of.length())));
        }
        return letters.toString();
    }

    private void write(String text) throws ReflectiveOperationException {
        int t = random.nextInt(2);
        both("text", t, text.length());
        for (int i = 0; i < text.length(); i++) {
            both("put", t, i, text.charAt(i) + 256 * (random.nextInt(3) - 1));
        }
        if (text.length() < 6) {
            both("rule", t, random.nextInt(2));
        }
    }

    private void newVillage() throws ReflectiveOperationException {
        StringBuilder text = new StringBuilder();
        int houses = random.nextInt(9);
        int spread = 1 + random.nextInt(16);
        int wide = 1 + random.nextInt(28);
        for (int i = 0; i < houses; i++) {
            text.append("h").append(random.nextInt(spread));
        }
        for (int i = houses == 0 ? 0 : random.nextInt(9); i > 0; i--) {
            int from = random.nextInt(random.nextBoolean() ? 28 : 9);
            text.append(letters("nmlwft", 1)).append((char) ('A' + random.nextInt(houses))).append(':');
            text.append(from).append('-').append(Math.min(27, from + random.nextInt(wide))).append(':');
            text.append(1 + random.nextInt(4)).append(':').append(1 + random.nextInt(9));
        }
        if (text.length() > 0 && random.nextInt(4) == 0) {
            text.setCharAt(random.nextInt(text.length()), "h0n19:-A 5".charAt(random.nextInt(10)));
        }
        if (text.length() <= 100) {
            write(text.toString());
            both("fault", 0);
            both("village", 0);
            both("fault", 1);
            both("village", 1);
            allThatIsTold();
        }
    }

    private int[] someOrder() {
        List<Integer> order = new ArrayList<>();
        for (int i = 0; i < model.count(1); i++) {
            order.add(i);
        }
        Collections.shuffle(order, random);
        while (!order.isEmpty() && random.nextInt(3) == 0) {
            order.remove(0);
        }
        int[] ints = new int[order.size()];
        for (int i = 0; i < ints.length; i++) {
            ints[i] = random.nextInt(30) == 0 ? edgy(0, model.count(1) - 1) : order.get(i);
        }
        return ints;
    }

    private int[] parts(int number, int bound) {
        int[] ints = new int[number];
        for (int i = 0; i < number; i++) {
            ints[i] = random.nextInt(3) == 0 ? 0 : random.nextInt(bound);
            ints[i] = random.nextInt(200) == 0 ? random.nextBoolean() ? bound : -1 : ints[i];
        }
        return ints;
    }

    private void lay(int[] ints) throws ReflectiveOperationException {
        if (ints.length > 50) {
            return;
        }
        int r = random.nextInt(2);
        both("row", r, ints.length);
        for (int i = 0; i < ints.length; i++) {
            both("lay", r, i, ints[i]);
        }
        both("order", r);
        both("asked");
        both("begins", r, random.nextInt(8));
        both("keep", r);
        both("on", r);
        allThatIsTold();
    }
}
