/** Promises 1 to 9: a new object, rows, texts. */
public final class RowsTest {
    private static final int MOST = Integer.MAX_VALUE;
    private static final int LEAST = Integer.MIN_VALUE;

    public static void main(String[] args) {
        newObject();
        row();
        layAndAt();
        tear();
        copy();
        copyRefused();
        mean();
        textAndPut();
        Check.end();
    }

    private static void newObject() {
        CoatBetween x = new CoatBetween();
        for (int what = 0; what <= 7; what++) {
            Check.due("new: count(" + what + ")", x.count(what), 0);
        }
        Check.due("new: asked()", x.asked(), 0);
        Check.due("new: upper()", x.upper(), 0);
        Check.due("new: lower()", x.lower(), 1);
        Check.due("new: finding()", x.finding(), 0);
        for (int f = 1; f <= 5; f++) {
            Check.due("new: findings(" + f + ")", x.findings(f), 0);
        }
        for (int r = 0; r <= 5; r++) {
            Check.due("new: tear(" + r + ")", x.tear(r), -3);
        }
        for (int t = 0; t <= 3; t++) {
            Check.due("new: fault(" + t + ")", x.fault(t), -3);
        }
    }

    private static void row() {
        CoatBetween x = new CoatBetween();
        Check.due("row(0, 0)", x.row(0, 0), 0);
        Check.due("row(5, 60)", x.row(5, 60), 60);
        Check.due("count(6)", x.count(6), 2);
        Check.due("at(5, 59)", x.at(5, 59), 1);
        Check.due("asked()", x.asked(), 0);
        x.lay(5, 0, 7);
        Check.due("row(5, 2) anew", x.row(5, 2), 2);
        Check.rowIs(x, "row(5, 2)", 5, 0, 0);
        Check.bad(x, "row(-1, 1)", () -> x.row(-1, 1));
        Check.bad(x, "row(6, 1)", () -> x.row(6, 1));
        Check.bad(x, "row(0, 61)", () -> x.row(0, 61));
        Check.bad(x, "row(0, MOST)", () -> x.row(0, MOST));
        Check.bad(x, "row(6, -1)", () -> x.row(6, -1));
        Check.found(x, "row(5, -1)", () -> x.row(5, -1), 5);
        Check.found(x, "row(0, LEAST)", () -> x.row(0, LEAST), 5);
    }

    private static void layAndAt() {
        CoatBetween x = new CoatBetween();
        x.row(1, 3);
        Check.due("lay(1, 2, MOST)", x.lay(1, 2, MOST), 1);
        Check.due("what it was", x.asked(), 0);
        Check.due("lay(1, 2, -5)", x.lay(1, 2, -5), 1);
        Check.due("what it was", x.asked(), MOST);
        Check.due("at(1, 2)", x.at(1, 2), 1);
        Check.due("what it is", x.asked(), -5);
        Check.due("at(1, 0)", x.at(1, 0), 1);
        Check.due("what it is", x.asked(), 0);
        Check.bad(x, "lay(6, 0, 0)", () -> x.lay(6, 0, 0));
        Check.bad(x, "lay(-1, 0, 0)", () -> x.lay(-1, 0, 0));
        Check.found(x, "lay(0, 0, 0)", () -> x.lay(0, 0, 0), 1);
        Check.found(x, "lay(0, -1, 0)", () -> x.lay(0, -1, 0), 1);
        Check.found(x, "lay(1, 3, 0)", () -> x.lay(1, 3, 0), 2);
        Check.found(x, "lay(1, -1, 0)", () -> x.lay(1, -1, 0), 2);
        Check.found(x, "lay(1, MOST, 0)", () -> x.lay(1, MOST, 0), 2);
        Check.bad(x, "at(6, 0)", () -> x.at(6, 0));
        Check.bad(x, "at(LEAST, 0)", () -> x.at(LEAST, 0));
        Check.found(x, "at(2, 0)", () -> x.at(2, 0), 1);
        Check.found(x, "at(1, 3)", () -> x.at(1, 3), 2);
        Check.found(x, "at(1, LEAST)", () -> x.at(1, LEAST), 2);
    }

    private static void tear() {
        CoatBetween x = new CoatBetween();
        x.row(3, 4);
        Check.due("tear(3)", x.tear(3), 1);
        Check.due("count(6)", x.count(6), 0);
        Check.found(x, "at(3, 0)", () -> x.at(3, 0), 1);
        Check.found(x, "tear(3)", () -> x.tear(3), 1);
        Check.bad(x, "tear(6)", () -> x.tear(6));
        Check.bad(x, "tear(-1)", () -> x.tear(-1));
        x.row(3, 0);
        Check.due("tear of none", x.tear(3), 1);
    }

    private static void copy() {
        CoatBetween x = new CoatBetween();
        Check.lay(x, 0, 1, 2, 3, 4, 5);
        Check.lay(x, 1, 9, 8, 7);
        Check.due("copy(0, 3, 1, 1, 2)", x.copy(0, 3, 1, 1, 2), 1);
        Check.rowIs(x, "copied", 1, 9, 4, 5);
        Check.due("copy(0, 0, 0, 1, 4)", x.copy(0, 0, 0, 1, 4), 1);
        Check.rowIs(x, "as if taken ahead, up", 0, 1, 1, 2, 3, 4);
        Check.due("copy(0, 2, 0, 0, 3)", x.copy(0, 2, 0, 0, 3), 1);
        Check.rowIs(x, "as if taken ahead, down", 0, 2, 3, 4, 3, 4);
        Check.due("copy(0, 5, 1, 3, 0)", x.copy(0, 5, 1, 3, 0), 1);
        Check.due("copy(0, 0, 1, 0, 0)", x.copy(0, 0, 1, 0, 0), 1);
        Check.rowIs(x, "none copied", 1, 9, 4, 5);
    }

    private static void copyRefused() {
        CoatBetween x = new CoatBetween();
        Check.lay(x, 0, 1, 2, 3, 4, 5);
        Check.lay(x, 1, 9, 8, 7);
        Check.bad(x, "copy(6, 0, 0, 0, -1)", () -> x.copy(6, 0, 0, 0, -1));
        Check.bad(x, "copy(0, 0, -1, 0, -1)", () -> x.copy(0, 0, -1, 0, -1));
        Check.found(x, "copy(2, 0, 0, 0, -1)", () -> x.copy(2, 0, 0, 0, -1), 5);
        Check.found(x, "copy(0, 9, 0, 0, LEAST)", () -> x.copy(0, 9, 0, 0, LEAST), 5);
        Check.found(x, "copy(2, 9, 0, 0, 1)", () -> x.copy(2, 9, 0, 0, 1), 1);
        Check.found(x, "copy(0, 0, 2, 9, 1)", () -> x.copy(0, 0, 2, 9, 1), 1);
        Check.found(x, "copy(0, 3, 1, 0, 3)", () -> x.copy(0, 3, 1, 0, 3), 2);
        Check.found(x, "copy(0, 0, 1, 1, 3)", () -> x.copy(0, 0, 1, 1, 3), 2);
        Check.found(x, "copy(0, -1, 1, 0, 0)", () -> x.copy(0, -1, 1, 0, 0), 2);
        Check.found(x, "copy(0, 6, 1, 0, 0)", () -> x.copy(0, 6, 1, 0, 0), 2);
        Check.found(x, "copy(0, 0, 1, -1, 0)", () -> x.copy(0, 0, 1, -1, 0), 2);
        Check.found(x, "copy(0, 0, 1, 4, 0)", () -> x.copy(0, 0, 1, 4, 0), 2);
        Check.found(x, "copy(0, 1, 1, 0, MOST)", () -> x.copy(0, 1, 1, 0, MOST), 2);
        Check.found(x, "copy(0, MOST, 1, 0, MOST)", () -> x.copy(0, MOST, 1, 0, MOST), 2);
        Check.found(x, "copy(0, LEAST, 1, 0, MOST)", () -> x.copy(0, LEAST, 1, 0, MOST), 2);
    }

    private static void mean() {
        CoatBetween x = new CoatBetween();
        Check.lay(x, 0, 1, 2, 5);
        Check.due("mean(0)", x.mean(0), 1);
        Check.due("its mean", x.asked(), 2);
        Check.lay(x, 0, -1, -2, -5);
        Check.due("mean(0)", x.mean(0), 1);
        Check.due("cut", x.asked(), -2);
        Check.lay(x, 0, MOST, MOST, MOST, MOST - 4);
        Check.due("mean(0)", x.mean(0), 1);
        Check.due("of great ones", x.asked(), MOST - 1);
        Check.lay(x, 0, LEAST, LEAST);
        Check.due("mean(0)", x.mean(0), 1);
        Check.due("of small ones", x.asked(), LEAST);
        Check.lay(x, 0, -7);
        Check.due("mean(0)", x.mean(0), 1);
        Check.due("of one", x.asked(), -7);
        x.row(1, 0);
        Check.bad(x, "mean(6)", () -> x.mean(6));
        Check.bad(x, "mean(-1)", () -> x.mean(-1));
        Check.found(x, "mean(2)", () -> x.mean(2), 1);
        Check.found(x, "mean(1)", () -> x.mean(1), 4);
    }

    private static void textAndPut() {
        CoatBetween x = new CoatBetween();
        Check.due("text(3, 120)", x.text(3, 120), 120);
        Check.due("text(0, 0)", x.text(0, 0), 0);
        Check.due("count(7)", x.count(7), 2);
        Check.due("put(3, 119, 127)", x.put(3, 119, 127), 1032);
        Check.due("put(3, 119, 128)", x.put(3, 119, 128), 1127);
        Check.due("put(3, 119, -129)", x.put(3, 119, -129), 872);
        Check.due("put(3, 119, 256 + 7)", x.put(3, 119, 256 + 7), 1127);
        Check.due("put(3, 119, 0)", x.put(3, 119, 0), 1007);
        Check.due("put(3, 119, -1)", x.put(3, 119, -1), 1000);
        Check.due("put(3, 119, 1)", x.put(3, 119, 1), 999);
        Check.due("text(3, 2) anew", x.text(3, 2), 2);
        Check.due("put(3, 0, 104)", x.put(3, 0, 104), 1032);
        Check.due("asked() stays", x.asked(), 0);
        Check.bad(x, "text(4, 1)", () -> x.text(4, 1));
        Check.bad(x, "text(-1, -1)", () -> x.text(-1, -1));
        Check.bad(x, "text(0, 121)", () -> x.text(0, 121));
        Check.found(x, "text(0, -1)", () -> x.text(0, -1), 5);
        Check.bad(x, "put(4, 0, 0)", () -> x.put(4, 0, 0));
        Check.bad(x, "put(-1, 0, 0)", () -> x.put(-1, 0, 0));
        Check.found(x, "put(1, 0, 0)", () -> x.put(1, 0, 0), 1);
        Check.found(x, "put(3, 2, 0)", () -> x.put(3, 2, 0), 2);
        Check.found(x, "put(3, -1, 0)", () -> x.put(3, -1, 0), 2);
        Check.found(x, "put(0, 0, 0)", () -> x.put(0, 0, 0), 2);
    }
}
