import java.util.ArrayList;
import java.util.List;

/**
 * "They change nothing but what is told": ahead of and behind each call that is refused, all that can be
 * asked has the same answer. Only the TAPE is emptied, where the document says so.
 */
public final class RefusedTest {
    private static final int UNKNOWN = Desk.UNKNOWN, OUTSIDE = Desk.OUTSIDE, STATE = Desk.STATE, FULL = Desk.FULL, NONE = Desk.NONE;
    private static final Desk DESK = new Desk("RefusedTest");
    /** Stands on the TAPE ahead of each refused call that must leave it. */
    private static final String TYPED = "btw A B C";

    /** How an object is brought to the state in which calls are refused. */
    private enum Start { NEW, POINTS, GRADED, UNGRADED, FULL_ROWS, FULL_FIGURES }

    public static void main(String[] args) {
        refusedOnANewObject();
        refusedWithPointsAlone();
        for (Start start : new Start[] {Start.GRADED, Start.UNGRADED}) {
            refusedChanges(start);
            refusedQuestions(start);
            refusedTexts(start);
        }
        refusedQuestionsWithoutGrade();
        refusedWhenFull();
        DESK.end();
    }

    private static void bring(Start start, String about) {
        DESK.begin("refused: " + about);
        if (start == Start.NEW) return;
        DESK.call("points(4)");
        if (start == Start.POINTS) return;
        if (start == Start.FULL_ROWS) {
            for (int i = 1; i <= 40; i++) DESK.row(i == 7 ? "line A B C by 5 of 7" : "btw A B C given", i);
        } else {
            DESK.rows("mid A B C given", "eq A B A C by 3 of 1", "btw A B C seen", "line A B C", "perp A B C D by 1 of 9 6", "line A B D by 0 of 6");
        }
        int figures = start == Start.FULL_FIGURES ? 6 : 2;
        for (int i = 0; i < figures; i++) DESK.ask("figure()", i);
        DESK.draw(0, 1, 0, 0, 0, 2, 0, 1, 5);
        DESK.draw(1, 1, 0, 0, 0, 2, 0);
        DESK.goal("line A C B", 1);
        DESK.word(1, 6, "zwischen", 1);
        DESK.word(1, 7, "gegeben", 1);
        DESK.ask("language(1)", 0);
        if (start != Start.UNGRADED) DESK.call("grade()");
    }

    /** All answers that tell of the state; the last ones use it up. */
    private static List<Integer> answers() {
        List<Integer> answers = new ArrayList<>();
        for (int i = 0; i < 8; i++) answers.add(DESK.call("told(" + i + ")"));
        for (int figure = 0; figure < 3; figure++) {
            answers.add(DESK.call("good(" + figure + ")"));
            for (int p = 0; p < 5; p++) {
                for (int side = 0; side < 2; side++) answers.add(DESK.call("placed(" + figure + ", " + p + ", " + side + ")"));
            }
        }
        for (int row = 0; row < 8; row++) askOfRow(row, answers);
        for (int i = 0; i < 3; i++) answers.add(DESK.call("circle(" + i + ")"));
        for (int i = 0; i < 2; i++) answers.add(DESK.call("marks(" + i + ")"));
        for (int i = 0; i < 6; i++) answers.add(DESK.call("hint(" + i + ")"));
        for (int i = 0; i < 6; i++) answers.add(DESK.call("reached(" + i + ")"));
        answers.add(DESK.call("level(0, 0, 1, 2, 0)"));
        answers.add(DESK.call("grade()"));
        readOn(answers);
        return answers;
    }

    private static void askOfRow(int row, List<Integer> answers) {
        for (int what = 0; what < 8; what++) answers.add(DESK.call("fact(" + row + ", " + what + ")"));
        for (String call : new String[] {"verdict", "way", "gap", "counter", "order"}) answers.add(DESK.call(call + "(" + row + ")"));
        answers.add(DESK.call("because(" + row + ", 0)"));
    }

    /** What stands on the TAPE, the LANGUAGE at hand and the WORDS of both. */
    private static void readOn(List<Integer> answers) {
        answers.add(DESK.call("row()"));
        answers.add(DESK.call("told(2)"));
        answers.add(DESK.call("fact(" + DESK.call("told(2)") + ", 0)"));
        for (int l = 1; l >= 0; l--) {
            answers.add(DESK.call("language(" + l + ")"));
            for (String text : new String[] {"line A B C seen", "btw A B C", "zwischen A B C gegeben", "x A B C"}) {
                DESK.call("wipe()");
                DESK.type(text);
                answers.add(DESK.call("goal()"));
            }
        }
    }

    /** The call is refused, and all answers are those of an object that was not asked (with an empty TAPE, if that is emptied). */
    private static void refused(Start start, String typed, String call, int want, boolean emptied) {
        bring(start, call + " of '" + typed + "', " + start);
        if (!emptied) DESK.type(typed);
        List<Integer> before = answers();
        bring(start, call + " of '" + typed + "', " + start);
        DESK.type(typed);
        DESK.ask(call, want);
        List<Integer> after = answers();
        DESK.due("as many answers", after.size(), before.size());
        int unlike = NONE;
        for (int i = 0; i < before.size() && unlike == NONE; i++) {
            if (!before.get(i).equals(after.get(i))) unlike = i;
        }
        DESK.due("the first answer that is unlike", unlike, NONE);
    }

    private static void stays(Start start, int want, String... calls) {
        for (String call : calls) refused(start, TYPED, call, want, false);
    }

    private static void refusedOnANewObject() {
        stays(Start.NEW, STATE, "figure()", "row()", "goal()", "back()", "circle(0)", "marks(0)", "hint(0)", "reached(0)");
        stays(Start.NEW, OUTSIDE, "points(1)", "points(8)", "points(MIN)", "points(MAX)", "feed(1, 0)", "feed(1, 9)", "word(0, -1)", "word(1, 11)");
        stays(Start.NEW, UNKNOWN, "place(0, 0, 0, 0)", "good(0)", "language(-1)", "language(2)", "word(-1, 0)", "word(2, 0)", "fact(0, 0)", "verdict(1)");
    }

    private static void refusedWithPointsAlone() {
        stays(Start.POINTS, STATE, "back()", "marks(1)", "level(0, 0, 1, 2, 0)");
        stays(Start.POINTS, OUTSIDE, "points(1)", "points(8)");
        stays(Start.POINTS, UNKNOWN, "place(0, 0, 0, 0)", "fact(0, 0)", "fact(1, 0)");
    }

    private static void refusedChanges(Start start) {
        stays(start, STATE, "points(2)", "points(4)", "points(7)");
        stays(start, OUTSIDE, "points(1)", "points(8)", "points(MIN)", "points(MAX)");
        stays(start, OUTSIDE, "place(0, 0, 1001, 0)", "place(0, 0, 0, 1001)", "place(1, 3, -1001, 0)", "place(1, 3, 0, -1001)", "place(1, 3, MIN, MAX)");
        stays(start, UNKNOWN, "place(-1, 0, 9, 9)", "place(2, 0, 9, 9)", "place(0, -1, 9, 9)", "place(0, 4, 9, 9)", "place(MAX, MIN, 9, 9)");
        stays(start, OUTSIDE, "feed(65, 0)", "feed(65, 9)", "feed(65, -1)", "feed(65, MAX)");
        stays(start, UNKNOWN, "language(-1)", "language(2)", "language(MIN)", "language(MAX)");
        stays(start, UNKNOWN, "word(-1, 0)", "word(2, 0)", "word(2, 11)");
        stays(start, OUTSIDE, "word(0, -1)", "word(1, 11)", "word(1, MAX)");
    }

    private static void refusedQuestions(Start start) {
        stays(start, UNKNOWN, "good(2)", "good(-1)", "holds(2, 0, 0, 1, 2, 0)", "fact(7, 0)", "fact(-1, 0)", "because(2, 1)", "because(0, 0)", "alike(7, 0, 0, 1, 2, 0)",
            "verdict(7)", "way(0)", "gap(-1)", "counter(7)", "order(0)");
        stays(start, OUTSIDE, "holds(0, 7, 0, 1, 2, 0)", "holds(0, 0, 0, 1, 4, 0)", "fact(1, 8)", "alike(1, 0, 0, 0, 1, 0)", "marks(2)", "hint(6)", "level(1, 0, 1, 1, 0)",
            "reached(6)", "told(8)", "told(-1)");
        stays(start, -2001, "placed(2, 0, 0)", "placed(0, 4, 0)");
        stays(start, -2002, "placed(0, 0, 2)");
        stays(start, -2003, "placed(1, 3, 0)");
    }

    private static void refusedQuestionsWithoutGrade() {
        stays(Start.UNGRADED, STATE, "verdict(1)", "way(1)", "gap(1)", "counter(1)", "order(1)", "circle(0)", "marks(0)", "marks(1)", "hint(0)", "hint(1)",
            "level(0, 0, 1, 2, 0)", "reached(0)");
    }

    /** The TAPE is emptied by a TEXT that has a fault, and by a WORD that another has. */
    private static void refusedTexts(Start start) {
        refused(start, "", "row()", -100, true);
        refused(start, "line A B", "row()", -108, true);
        refused(start, "line A B E", "row()", -109, true);
        refused(start, "line A B A", "row()", -100, true);
        refused(start, "btw A B C", "row()", -100, true);
        refused(start, "line A B C gegeben x", "row()", -119, true);
        refused(start, "line A B C by 17", "row()", -114, true);
        refused(start, "line A B C by 1 of 1 2 3 4 5 6 7", "row()", -131, true);
        refused(start, "eq A B A C gegeben", "goal()", -111, true);
        refused(start, "eq A B A", "goal()", -108, true);
        refused(start, "eq A B A B", "goal()", -100, true);
        refused(start, "X", "word(0, 0)", -100, true);
        refused(start, "x y", "word(0, 0)", -102, true);
        refused(start, "", "word(0, 0)", -100, true);
        refused(start, "seen", "word(0, 0)", STATE, true);
        refused(start, "line", "word(1, 6)", STATE, true);
    }

    private static void refusedWhenFull() {
        stays(Start.FULL_FIGURES, FULL, "figure()");
        refused(Start.FULL_ROWS, "line A B C", "row()", FULL, true);
        refused(Start.FULL_ROWS, "line A B", "row()", -108, true);
        refused(Start.GRADED, " ".repeat(120), "feed(65, 1)", FULL, false);
        refused(Start.GRADED, "line A B C" + " ".repeat(103), "feed(65, 8)", FULL, false);
        refused(Start.GRADED, "line A B C" + " ".repeat(110), "feed(65, 9)", OUTSIDE, false);
    }
}
