import java.util.function.IntSupplier;

/** What all tests share: they tell every answer that is not the one that is due, and end with 1 if there was one. */
final class Check {
    private static int answers = 0;
    private static int wrong = 0;

    private Check() {
    }

    static void due(String call, long got, long want) {
        answers++;
        if (got != want) {
            wrong++;
            System.out.println(call + " answered " + got + ", due is " + want);
        }
    }

    /** A call that is refused, or answers NONE: nothing else may change but finding(), findings(). */
    static void unchanged(CoatBetween x, String call, IntSupplier made, int want, int finding) {
        long[] before = state(x);
        int[] findings = findings(x);
        int latest = x.finding();
        due(call, made.getAsInt(), want);
        long[] after = state(x);
        for (int i = 0; i < before.length; i++) {
            due(call + ", state " + i, after[i], before[i]);
        }
        due(call + ", finding()", x.finding(), finding == 0 ? latest : finding);
        for (int f = 1; f <= 5; f++) {
            due(call + ", findings(" + f + ")", x.findings(f), findings[f] + (f == finding ? 1 : 0));
        }
    }

    static void bad(CoatBetween x, String call, IntSupplier made) {
        unchanged(x, call, made, CoatBetween.BAD, 0);
    }

    static void refused(CoatBetween x, String call, IntSupplier made, int want) {
        unchanged(x, call, made, want, 0);
    }

    static void found(CoatBetween x, String call, IntSupplier made, int finding) {
        unchanged(x, call, made, CoatBetween.FINDING, finding);
    }

    static void none(CoatBetween x, String call, IntSupplier made) {
        unchanged(x, call, made, CoatBetween.NONE, 0);
    }

    private static long[] state(CoatBetween x) {
        return new long[] {x.digest(), x.asked(), x.upper(), x.lower()};
    }

    private static int[] findings(CoatBetween x) {
        int[] findings = new int[6];
        for (int f = 1; f <= 5; f++) {
            findings[f] = x.findings(f);
        }
        return findings;
    }

    static void write(CoatBetween x, int t, String text) {
        due("text(" + t + ", " + text.length() + ")", x.text(t, text.length()), text.length());
        for (int i = 0; i < text.length(); i++) {
            x.put(t, i, text.charAt(i));
        }
    }

    static void lay(CoatBetween x, int r, int... ints) {
        due("row(" + r + ", " + ints.length + ")", x.row(r, ints.length), ints.length);
        for (int i = 0; i < ints.length; i++) {
            x.lay(r, i, ints[i]);
        }
    }

    static void rowIs(CoatBetween x, String call, int r, int... ints) {
        for (int i = 0; i < ints.length; i++) {
            due(call + ", at(" + r + ", " + i + ")", x.at(r, i), 1);
            due(call + ", place " + i, x.asked(), ints[i]);
        }
        due(call + ", its end", x.at(r, ints.length), CoatBetween.FINDING);
        due(call + ", its end is beyond", x.finding(), 2);
    }

    /** A new object with a village that comes by TEXT 3. */
    static CoatBetween village(String text) {
        CoatBetween x = new CoatBetween();
        write(x, 3, text);
        int houses = 0;
        for (char sign : text.toCharArray()) {
            houses += sign == 'h' ? 1 : 0;
        }
        due("village of " + text, x.village(3), houses);
        return x;
    }

    static void end() {
        System.out.println(answers + " answers, " + wrong + " wrong");
        if (wrong != 0 || answers == 0) {
            System.exit(1);
        }
    }
}
