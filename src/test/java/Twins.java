import java.util.ArrayDeque;
import java.util.Deque;

/** A RowGrader and the Model side by side: every call goes to both, and both must answer the same. */
final class Twins {
    static final int MOST_CALLS = 512;

    final RowGrader grader = new RowGrader();
    final Model model = new Model();
    private final Deque<String> latest = new ArrayDeque<>();
    private final int run;
    int calls;
    static int wrong;
    static long asked;

    Twins(int run) {
        this.run = run;
    }

    boolean isUsedUp() {
        return calls >= MOST_CALLS;
    }

    private int same(String call, int got, int due) {
        calls++;
        asked++;
        latest.addLast(call + " -> " + got);
        if (latest.size() > 60) latest.removeFirst();
        if (got != due) {
            wrong++;
            if (wrong <= 3) {
                System.out.println("run " + run + ", call " + calls + ": due is " + due + " at the last of");
                for (String line : latest) System.out.println("    " + line);
            }
        }
        return due;
    }

    int points(int n) {
        return same("points(" + n + ")", grader.points(n), model.points(n));
    }

    int figure() {
        return same("figure()", grader.figure(), model.figure());
    }

    int place(int figure, int p, int x, int y) {
        return same("place(" + figure + ", " + p + ", " + x + ", " + y + ")", grader.place(figure, p, x, y), model.place(figure, p, x, y));
    }

    int placed(int figure, int p, int side) {
        return same("placed(" + figure + ", " + p + ", " + side + ")", grader.placed(figure, p, side), model.placed(figure, p, side));
    }

    int good(int figure) {
        return same("good(" + figure + ")", grader.good(figure), model.good(figure));
    }

    int holds(int figure, int kind, int a, int b, int c, int d) {
        String call = "holds(" + figure + ", " + kind + ", " + a + ", " + b + ", " + c + ", " + d + ")";
        return same(call, grader.holds(figure, kind, a, b, c, d), model.holds(figure, kind, a, b, c, d));
    }

    int feed(long w, int n) {
        return same("feed(" + w + "L, " + n + ")", grader.feed(w, n), model.feed(w, n));
    }

    void type(String text) {
        byte[] bytes = text.getBytes(java.nio.charset.StandardCharsets.ISO_8859_1);
        latest.addLast("  typed: " + text);
        for (int at = 0; at < bytes.length; at += 8) {
            int n = Math.min(8, bytes.length - at);
            feed(Typist.packed(bytes, at, n), n);
        }
    }

    int wipe() {
        return same("wipe()", grader.wipe(), model.wipe());
    }

    int language(int l) {
        return same("language(" + l + ")", grader.language(l), model.language(l));
    }

    int word(int language, int which) {
        return same("word(" + language + ", " + which + ")", grader.word(language, which), model.word(language, which));
    }

    int row() {
        return same("row()", grader.row(), model.row());
    }

    int goal() {
        return same("goal()", grader.goal(), model.goal());
    }

    int back() {
        return same("back()", grader.back(), model.back());
    }

    int fact(int row, int what) {
        return same("fact(" + row + ", " + what + ")", grader.fact(row, what), model.fact(row, what));
    }

    int because(int row, int i) {
        return same("because(" + row + ", " + i + ")", grader.because(row, i), model.because(row, i));
    }

    int alike(int row, int kind, int a, int b, int c, int d) {
        String call = "alike(" + row + ", " + kind + ", " + a + ", " + b + ", " + c + ", " + d + ")";
        return same(call, grader.alike(row, kind, a, b, c, d), model.alike(row, kind, a, b, c, d));
    }

    int grade() {
        return same("grade()", grader.grade(), model.grade());
    }

    int verdict(int row) {
        return same("verdict(" + row + ")", grader.verdict(row), model.ofRow(row, 0));
    }

    int way(int row) {
        return same("way(" + row + ")", grader.way(row), model.ofRow(row, 1));
    }

    int gap(int row) {
        return same("gap(" + row + ")", grader.gap(row), model.ofRow(row, 2));
    }

    int counter(int row) {
        return same("counter(" + row + ")", grader.counter(row), model.ofRow(row, 3));
    }

    int order(int row) {
        return same("order(" + row + ")", grader.order(row), model.ofRow(row, 4));
    }

    int circle(int i) {
        return same("circle(" + i + ")", grader.circle(i), model.circle(i));
    }

    int marks(int side) {
        return same("marks(" + side + ")", grader.marks(side), model.marks(side));
    }

    int hint(int what) {
        return same("hint(" + what + ")", grader.hint(what), model.hint(what));
    }

    int level(int kind, int a, int b, int c, int d) {
        String call = "level(" + kind + ", " + a + ", " + b + ", " + c + ", " + d + ")";
        return same(call, grader.level(kind, a, b, c, d), model.level(kind, a, b, c, d));
    }

    int reached(int n) {
        return same("reached(" + n + ")", grader.reached(n), model.reached(n));
    }

    int told(int what) {
        return same("told(" + what + ")", grader.told(what), model.told(what));
    }
}
