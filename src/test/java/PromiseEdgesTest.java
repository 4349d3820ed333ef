/** The edges of promises 1 to 29, in their order: too small, too large, empty, full, and what is refused. */
public final class PromiseEdgesTest {
    private static final int UNKNOWN = Desk.UNKNOWN, OUTSIDE = Desk.OUTSIDE, STATE = Desk.STATE, FULL = Desk.FULL, NONE = Desk.NONE;
    private static final int COL = 0, PAR = 1, EQ = 3, MID = 4, BTW = 6;

    private static final Desk DESK = new Desk("PromiseEdgesTest");

    public static void main(String[] args) {
        aNewObject();
        points();
        figure();
        place();
        placed();
        good();
        holds();
        feed();
        feedTakesTheLowestBytes();
        wipe();
        language();
        word();
        wordsOfALanguageAreUnlike();
        row();
        goal();
        back();
        fact();
        because();
        alike();
        grade();
        gradedManyTimes();
        gradedRows();
        noneSinceTheseCalls();
        stillGradedAfterOthers();
        counter();
        circle();
        order();
        marks();
        hint();
        level();
        reached();
        told();
        DESK.end();
    }

    private static void aNewObject() {
        DESK.begin("1: No POINTS, FIGURES, rows; an empty TAPE");
        DESK.askFrom(-1, "told(#)", OUTSIDE, 0, 0, 0, 0, 0, 0, 0, 0, OUTSIDE);
        DESK.ask("figure()", STATE);
        DESK.ask("place(0, 0, 0, 0)", UNKNOWN);
        DESK.ask("placed(0, 0, 0)", -2001);
        DESK.ask("good(0)", UNKNOWN);
        DESK.ask("holds(0, 0, 0, 1, 2, 3)", UNKNOWN);
        DESK.ask("wipe()", 0);
        DESK.ask("row()", STATE);
        DESK.ask("goal()", STATE);
        DESK.ask("word(0, 0)", -100);
        DESK.ask("back()", STATE);
        DESK.ask("fact(0, 0)", UNKNOWN);
        DESK.ask("fact(1, 0)", UNKNOWN);
        DESK.ask("because(0, 0)", UNKNOWN);
        DESK.ask("because(1, 0)", UNKNOWN);
        DESK.ask("alike(0, 0, 0, 1, 2, 3)", UNKNOWN);
        DESK.ask("alike(1, 0, 0, 1, 2, 3)", UNKNOWN);
        for (String call : new String[] {"verdict", "way", "gap", "counter", "order"}) DESK.ask(call + "(1)", UNKNOWN);
        DESK.ask("circle(0)", STATE);
        DESK.ask("marks(0)", STATE);
        DESK.ask("hint(0)", STATE);
        DESK.ask("reached(0)", STATE);
        DESK.ask("level(0, 0, 1, 2, 3)", OUTSIDE);
        DESK.ask("language(0)", 0);
        DESK.ask("grade()", 0);
        DESK.ask("verdict(1)", UNKNOWN);
        DESK.ask("circle(0)", NONE);
        DESK.askFrom(0, "marks(#)", 0, 0);
        DESK.askFrom(0, "hint(#)", NONE, NONE, NONE, NONE, NONE, NONE);
        DESK.askFrom(0, "reached(#)", 0, 0, 0, 0, 0, 0);
        DESK.ask("level(0, 0, 1, 2, 3)", OUTSIDE);
        DESK.askFrom(0, "told(#)", 0, 0, 0, 0, 0, 0, 0, 0);
    }

    private static void points() {
        DESK.begin("2: OUTSIDE");
        DESK.askEach("points(#)", OUTSIDE, "-7", "-2", "-1", "0", "1", "8", "9");
        DESK.askEach("points(#)", OUTSIDE, Desk.FAR);
        DESK.ask("told(0)", 0);
        DESK.ask("figure()", STATE);
        DESK.askFrom(2, "points(#)", 1, 1, 1, 1, 1, 1);
        DESK.ask("told(0)", 7);
        DESK.askEach("points(#)", OUTSIDE, "1", "8");
        DESK.ask("told(0)", 7);
        DESK.ask("points(7)", 1);
        DESK.begin("2: STATE: there are rows", 3);
        DESK.rows("line A B C");
        DESK.askFrom(1, "points(#)", OUTSIDE, STATE, STATE, STATE, STATE, STATE, STATE, OUTSIDE);
        DESK.ask("told(0)", 3);
        DESK.ask("back()", 0);
        DESK.ask("points(4)", 1);
        DESK.begin("2: STATE: a GOAL", 3);
        DESK.goal("line A B C", 1);
        DESK.ask("points(3)", STATE);
        DESK.ask("points(4)", STATE);
        DESK.ask("told(0)", 3);
        DESK.begin("2: STATE: FIGURES", 3);
        DESK.ask("figure()", 0);
        DESK.ask("points(3)", STATE);
        DESK.ask("points(2)", STATE);
        DESK.ask("told(0)", 3);
        DESK.begin("2: refused rows and goals are none", 3);
        DESK.refuse("line A B#");
        DESK.goal("line A A B", -100);
        DESK.ask("points(2)", 1);
        DESK.refuse("line A B #C");
    }

    private static void figure() {
        DESK.begin("3: STATE: no POINTS were told");
        DESK.ask("figure()", STATE);
        DESK.ask("points(8)", OUTSIDE);
        DESK.ask("figure()", STATE);
        DESK.ask("told(1)", 0);
        DESK.ask("points(2)", 1);
        DESK.begin("3: FULL", 2);
        for (int i = 0; i < 6; i++) {
            DESK.ask("told(1)", i);
            DESK.ask("figure()", i);
            DESK.ask("placed(" + i + ", 0, 0)", -2003);
            DESK.ask("placed(" + i + ", 1, 1)", -2003);
        }
        DESK.ask("figure()", FULL);
        DESK.ask("figure()", FULL);
        DESK.ask("told(1)", 6);
    }

    private static void place() {
        DESK.begin("4: UNKNOWN", 3);
        DESK.ask("place(0, 0, 0, 0)", UNKNOWN);
        DESK.ask("figure()", 0);
        DESK.ask("figure()", 1);
        DESK.askEach("place(#, 0, 0, 0)", UNKNOWN, "-1", "2", "5", "6");
        DESK.askEach("place(#, 0, 0, 0)", UNKNOWN, Desk.FAR);
        DESK.askEach("place(0, #, 0, 0)", UNKNOWN, "-1", "3", "6", "7");
        DESK.askEach("place(0, #, 0, 0)", UNKNOWN, Desk.FAR);
        for (int p = 0; p < 3; p++) DESK.ask("placed(0, " + p + ", 0)", -2003);
        DESK.begin("4: OUTSIDE", 3);
        DESK.ask("figure()", 0);
        DESK.askEach("place(0, 2, #, 0)", OUTSIDE, "-1001", "1001");
        DESK.askEach("place(0, 2, 0, #)", OUTSIDE, "-1001", "1001");
        DESK.askEach("place(0, 2, #, 0)", OUTSIDE, Desk.FAR);
        DESK.askEach("place(0, 2, 0, #)", OUTSIDE, Desk.FAR);
        DESK.ask("placed(0, 2, 0)", -2003);
        DESK.ask("place(0, 2, -1000, 1000)", 1);
        DESK.ask("place(0, 0, 1000, -1000)", 1);
        DESK.ask("place(0, 2, 5, 1001)", OUTSIDE);
        DESK.ask("placed(0, 2, 0)", -1000);
        DESK.ask("placed(0, 2, 1)", 1000);
        DESK.ask("placed(0, 0, 0)", 1000);
        DESK.ask("placed(0, 0, 1)", -1000);
        DESK.ask("placed(0, 1, 0)", -2003);
    }

    private static void placed() {
        DESK.begin("5: UNKNOWN; OUTSIDE: side; STATE: it has no PLACE (-2000 less these)", 2);
        DESK.ask("placed(0, 0, 0)", -2001);
        DESK.ask("figure()", 0);
        DESK.askFrom(-1, "placed(#, 0, 0)", -2001, -2003, -2001);
        DESK.askFrom(-1, "placed(0, #, 0)", -2001, -2003, -2003, -2001);
        DESK.askFrom(-1, "placed(0, 0, #)", -2002, -2003, -2003, -2002);
        DESK.askEach("placed(#, 0, 0)", -2001, Desk.FAR);
        DESK.askEach("placed(0, #, 0)", -2001, Desk.FAR);
        DESK.askEach("placed(0, 0, #)", -2002, Desk.FAR);
        DESK.ask("place(0, 1, -1, -3)", 1);
        DESK.askFrom(-1, "placed(0, 1, #)", -2002, -1, -3, -2002);
        DESK.ask("placed(0, 0, 0)", -2003);
    }

    private static void good() {
        DESK.begin("6: UNKNOWN", 2);
        DESK.ask("good(0)", UNKNOWN);
        DESK.ask("figure()", 0);
        DESK.askFrom(-1, "good(#)", UNKNOWN, 0, UNKNOWN);
        DESK.askEach("good(#)", UNKNOWN, Desk.FAR);
        DESK.draw(0, 0, 0, 0, 1);
        DESK.ask("good(0)", 1);
        DESK.ask("place(0, 1, 0, 0)", 1);
        DESK.ask("good(0)", 0);
    }

    private static void holds() {
        DESK.begin("7: UNKNOWN: the FIGURE", 4);
        DESK.ask("holds(0, 0, 0, 1, 2, 3)", UNKNOWN);
        DESK.ask("figure()", 0);
        DESK.draw(0, 0, 0, 1, 0, 2, 0, 3, 0);
        DESK.askFrom(-1, "holds(#, 0, 0, 1, 2, 3)", UNKNOWN, 1, UNKNOWN);
        DESK.askEach("holds(#, 0, 0, 1, 2, 3)", UNKNOWN, Desk.FAR);
        DESK.begin("7: OUTSIDE: no FACT (a kind, POINTS that there are)", 4);
        DESK.ask("figure()", 0);
        DESK.draw(0, 0, 0, 1, 0, 2, 0, 3, 0);
        DESK.askFrom(-1, "holds(0, #, 1, 0, 2, 3)", OUTSIDE, 1, 1, 0, 1, 1, 0, 1, OUTSIDE);
        DESK.askEach("holds(0, #, 0, 1, 2, 3)", OUTSIDE, Desk.FAR);
        for (int kind = 0; kind < 7; kind++) {
            String call = "holds(0, " + kind + ", ";
            for (String bad : new String[] {"-1", "4", "6", "7", "MIN", "MAX"}) {
                DESK.ask(call + bad + ", 1, 2, 3)", OUTSIDE);
                DESK.ask(call + "0, " + bad + ", 2, 3)", OUTSIDE);
                DESK.ask(call + "0, 1, " + bad + ", 3)", OUTSIDE);
            }
        }
        DESK.begin("7: what it does not have does not matter", 4);
        DESK.ask("figure()", 0);
        DESK.draw(0, 1, 0, 0, 0, 2, 0, 3, 0);
        for (String any : new String[] {"-1", "0", "1", "2", "4", "7", "MIN", "MAX"}) {
            DESK.ask("holds(0, 0, 0, 1, 2, " + any + ")", 1);
            DESK.ask("holds(0, 4, 0, 1, 2, " + any + ")", 1);
            DESK.ask("holds(0, 6, 0, 1, 2, " + any + ")", 1);
        }
        for (String bad : new String[] {"-1", "4", "7", "MIN", "MAX"}) {
            for (int kind : new int[] {1, 2, 3, 5}) DESK.ask("holds(0, " + kind + ", 0, 1, 2, " + bad + ")", OUTSIDE);
        }
    }

    private static void feed() {
        DESK.begin("8: OUTSIDE");
        DESK.askEach("feed(65, #)", OUTSIDE, "-8", "-1", "0", "9", "16", "64");
        DESK.askEach("feed(65, #)", OUTSIDE, Desk.FAR);
        DESK.ask("told(3)", 0);
        int length = 0;
        for (int n = 1; n <= 8; n++) {
            length += n;
            DESK.ask("feed(-1, " + n + ")", length);
        }
        DESK.begin("8: FULL: above 120");
        for (int i = 1; i <= 120; i++) DESK.ask("feed(97, 1)", i);
        for (int n = 1; n <= 8; n++) DESK.ask("feed(97, " + n + ")", FULL);
        DESK.ask("told(3)", 120);
        DESK.ask("wipe()", 120);
        for (int free = 1; free <= 8; free++) {
            DESK.begin("8: FULL: above 120");
            for (int i = 0; i < 120 - free; i++) DESK.call("feed(32, 1)");
            for (int n = free + 1; n <= 8; n++) DESK.ask("feed(0, " + n + ")", FULL);
            DESK.ask("told(3)", 120 - free);
            DESK.ask("feed(0, " + free + ")", 120);
            DESK.ask("feed(0, 1)", FULL);
            DESK.ask("word(0, 0)", -220 + free);
        }
    }

    private static void feedTakesTheLowestBytes() {
        long eight = 0x6C696E6520412042L;
        DESK.begin("8: of w the n lowest, the highest of these first", 3);
        DESK.ask("feed(" + eight + ", 8)", 8);
        DESK.ask("feed(" + (0xFFFFFFFFFFFF2043L) + ", 2)", 10);
        DESK.ask("row()", 1);
        for (int n = 1; n <= 7; n++) {
            DESK.begin("8: of w the n lowest, the highest of these first, n = " + n, 3);
            String text = "line A B C given";
            for (int at = 0; at < text.length(); at += n) {
                int size = Math.min(n, text.length() - at);
                // The bytes above the lowest ones are no part of the text.
                long w = -1L;
                for (int i = 0; i < size; i++) w = w << 8 | text.charAt(at + i);
                DESK.ask("feed(" + w + ", " + size + ")", at + size);
            }
            DESK.ask("row()", 1);
            DESK.ask("fact(1, 5)", 1);
        }
        DESK.begin("8: bytes above 127 are no letters", 3);
        DESK.ask("feed(" + Long.MIN_VALUE + ", 8)", 8);
        DESK.ask("word(0, 0)", -100);
        DESK.ask("feed(" + Long.MIN_VALUE + ", 7)", 7);
        DESK.ask("feed(" + Long.MAX_VALUE + ", 1)", 8);
        DESK.ask("wipe()", 8);
        DESK.ask("feed(225, 1)", 1);
        DESK.ask("word(0, 0)", -100);
        DESK.ask("feed(353, 1)", 1);
        DESK.ask("word(0, 0)", 1);
        DESK.rows("a A B C");
    }

    private static void wipe() {
        DESK.begin("9: The TAPE is emptied: how many it had", 3);
        DESK.ask("wipe()", 0);
        DESK.ask("wipe()", 0);
        DESK.type("x");
        DESK.ask("wipe()", 1);
        DESK.ask("told(3)", 0);
        DESK.type(" ".repeat(120));
        DESK.ask("wipe()", 120);
        DESK.ask("wipe()", 0);
        DESK.type("line A B C");
        DESK.ask("row()", 1);
        DESK.ask("wipe()", 0);
    }

    private static void language() {
        DESK.begin("10: UNKNOWN", 3);
        DESK.word(1, 0, "one", 1);
        DESK.askEach("language(#)", UNKNOWN, "-1", "2");
        DESK.askEach("language(#)", UNKNOWN, Desk.FAR);
        DESK.rows("line A B C");
        DESK.askEach("language(#)", 0, "0", "1");
        DESK.askEach("language(#)", UNKNOWN, "-1", "2");
        DESK.rows("one A B C");
        DESK.askEach("language(#)", 1, "1", "0");
        DESK.ask("language(0)", 0);
        DESK.rows("line A B C");
    }

    private static void word() {
        DESK.begin("11: (An UNKNOWN, OUTSIDE leaves the TAPE.)", 3);
        DESK.type("fresh");
        DESK.askEach("word(#, 0)", UNKNOWN, "-1", "2");
        DESK.askEach("word(#, 0)", UNKNOWN, Desk.FAR);
        DESK.askEach("word(0, #)", OUTSIDE, "-1", "11", "12");
        DESK.askEach("word(1, #)", OUTSIDE, Desk.FAR);
        DESK.ask("told(3)", 5);
        DESK.ask("word(0, 0)", 1);
        DESK.ask("told(3)", 0);
        DESK.rows("fresh A B C");
        DESK.begin("11: -100 less a place; the TAPE is emptied then", 3);
        String[] texts = {"#", "  #", "#A", " #1", "#abcdefghi", "abcdefgh #b", "a #A", "a  #1", "#a-b", "#aB", "a #b c", "line #line"};
        for (String text : texts) {
            DESK.word(0, 0, text.replace("#", ""), -100 - text.indexOf('#'));
            DESK.ask("told(3)", 0);
        }
        DESK.rows("line A B C");
        for (int which = 0; which < 11; which++) DESK.word(1, which, "abcdefg" + (char) ('a' + which), 1);
        DESK.ask("language(1)", 0);
        DESK.rows("abcdefga A B C abcdefgj 16 abcdefgk 1", "abcdefgg A B C abcdefgh", "abcdefge A B C abcdefgi");
        DESK.askFrom(2, "fact(#, 0)", COL, BTW, MID);
        DESK.askFrom(2, "fact(#, 5)", 3, 1, 2);
    }

    private static void wordsOfALanguageAreUnlike() {
        String[] first = {"line", "par", "perp", "eq", "mid", "circ", "btw", "given", "seen", "by", "of"};
        for (int which = 0; which < 11; which++) {
            DESK.begin("11: STATE: another which of it has that WORD", 3);
            for (int other = 0; other < 11; other++) {
                DESK.word(0, which, first[other], which == other ? 1 : STATE);
                DESK.ask("told(3)", 0);
            }
            DESK.word(0, which, "x", 1);
            DESK.word(0, which, "x", 1);
            DESK.word(0, (which + 1) % 11, "x", STATE);
            DESK.word(1, (which + 1) % 11, "x", 1);
            DESK.word(0, (which + 1) % 11, first[which], 1);
            DESK.word(0, which, first[which], STATE);
        }
        DESK.begin("11: a refused WORD leaves the former one", 3);
        DESK.word(0, 0, "par", STATE);
        DESK.rows("line A B C", "par A B A C");
        DESK.askFrom(1, "fact(#, 0)", COL, PAR);
    }

    private static void row() {
        DESK.begin("12: STATE: no POINTS (the TAPE stays)");
        DESK.type("line A B C");
        DESK.ask("row()", STATE);
        DESK.ask("row()", STATE);
        DESK.ask("told(3)", 10);
        DESK.ask("told(2)", 0);
        DESK.ask("points(3)", 1);
        DESK.ask("row()", 1);
        DESK.ask("told(3)", 0);
        DESK.ask("row()", -100);
        DESK.begin("12: -100 less a place; FULL", 3);
        for (int i = 1; i <= 40; i++) DESK.row("line A B C", i);
        DESK.ask("row()", -100);
        DESK.refuse("line A B#", "#line A B B", "line A B C by #17");
        DESK.row("line A B C", FULL);
        DESK.ask("told(3)", 0);
        DESK.row("line A B C given", FULL);
        DESK.ask("told(2)", 40);
        DESK.ask("fact(40, 5)", 0);
        DESK.ask("fact(41, 5)", UNKNOWN);
    }

    private static void goal() {
        DESK.begin("13: STATE: no POINTS");
        DESK.type("line A B C");
        DESK.ask("goal()", STATE);
        DESK.ask("told(3)", 10);
        DESK.ask("told(4)", 0);
        DESK.ask("points(3)", 1);
        DESK.ask("goal()", 1);
        DESK.ask("told(3)", 0);
        DESK.ask("told(4)", 1);
        DESK.begin("13: -100 less a place", 3);
        String[] texts = {"#", " #", "line A B#", "line A B #D", "#line A B A", "line A B C #given", "line A B C #seen", "line A B C #by 3", "line A B C #x", "line A B C #A"};
        for (String text : texts) {
            DESK.goal(text.replace("#", ""), -100 - text.indexOf('#'));
            DESK.ask("told(3)", 0);
            DESK.ask("told(4)", 0);
        }
        DESK.ask("fact(0, 0)", UNKNOWN);
        DESK.goal("btw C B A", 1);
        DESK.goal("line A B", -108);
        DESK.askFrom(0, "fact(0, #)", BTW, 2, 0, 1, NONE, 0, NONE, 0, OUTSIDE);
        DESK.goal("eq A B A C", 1);
        DESK.askFrom(0, "fact(0, #)", EQ, 0, 1, 0, 2, 0, NONE, 0, OUTSIDE);
        for (int i = 1; i <= 40; i++) DESK.row("line A B C", i);
        DESK.goal("mid A B C", 1);
        DESK.ask("fact(0, 0)", MID);
        DESK.ask("told(2)", 40);
    }

    private static void back() {
        DESK.begin("14: STATE: there is none", 3);
        DESK.ask("back()", STATE);
        DESK.goal("line A B C", 1);
        DESK.ask("back()", STATE);
        DESK.rows("line A B C");
        DESK.ask("back()", 0);
        DESK.ask("back()", STATE);
        DESK.ask("told(2)", 0);
        DESK.ask("told(4)", 1);
        DESK.begin("14: The last row goes: how many are left", 3);
        for (int i = 1; i <= 40; i++) DESK.row(i % 2 == 0 ? "line A B C by 3 of 1" : "btw A B C given", i);
        for (int i = 39; i >= 0; i--) {
            DESK.ask("back()", i);
            DESK.ask("fact(" + (i + 1) + ", 0)", UNKNOWN);
        }
        DESK.ask("back()", STATE);
        DESK.rows("line A B C");
        DESK.askFrom(0, "fact(1, #)", COL, 0, 1, 2, NONE, 0, NONE, 0);
        DESK.ask("because(1, 0)", UNKNOWN);
    }

    private static void fact() {
        DESK.begin("15: UNKNOWN", 4);
        DESK.askFrom(-1, "fact(#, 0)", UNKNOWN, UNKNOWN, UNKNOWN);
        DESK.rows("line D C B by 16 of 6 5 4 3 2 1", "circ D C B A");
        DESK.askFrom(-1, "fact(#, 7)", UNKNOWN, UNKNOWN, 6, 0, UNKNOWN);
        DESK.askEach("fact(#, 0)", UNKNOWN, "39", "40", "41");
        DESK.askEach("fact(#, 0)", UNKNOWN, Desk.FAR);
        DESK.goal("mid D C A", 1);
        DESK.askFrom(-1, "fact(#, 0)", UNKNOWN, MID, COL, 5, UNKNOWN);
        DESK.begin("15: OUTSIDE", 4);
        DESK.rows("line D C B by 16 of 6 5 4 3 2 1", "circ D C B A");
        DESK.goal("mid D C A", 1);
        DESK.askFrom(-1, "fact(0, #)", OUTSIDE, MID, 3, 0, 2, NONE, 0, NONE, 0, OUTSIDE);
        DESK.askFrom(-1, "fact(1, #)", OUTSIDE, COL, 1, 2, 3, NONE, 3, 16, 6, OUTSIDE);
        DESK.askFrom(-1, "fact(2, #)", OUTSIDE, 5, 0, 1, 2, 3, 0, NONE, 0, OUTSIDE);
        DESK.askEach("fact(1, #)", OUTSIDE, Desk.FAR);
        DESK.askEach("fact(0, #)", OUTSIDE, Desk.FAR);
        DESK.askEach("fact(3, #)", UNKNOWN, Desk.FAR);
    }

    private static void because() {
        DESK.begin("16: UNKNOWN: also none such", 3);
        DESK.rows("line A B C by 0 of 999", "line A B C by 0 of 1 2 3 4 5 6", "line A B C by 0", "line A B C");
        DESK.goal("line A B C", 1);
        DESK.askFrom(-1, "because(1, #)", UNKNOWN, 999, UNKNOWN, UNKNOWN);
        DESK.askFrom(-1, "because(2, #)", UNKNOWN, 1, 2, 3, 4, 5, 6, UNKNOWN, UNKNOWN);
        DESK.askFrom(-1, "because(3, #)", UNKNOWN, UNKNOWN, UNKNOWN);
        DESK.askFrom(-1, "because(#, 0)", UNKNOWN, UNKNOWN, 999, 1, UNKNOWN, UNKNOWN, UNKNOWN);
        DESK.askEach("because(2, #)", UNKNOWN, Desk.FAR);
        DESK.askEach("because(#, 0)", UNKNOWN, Desk.FAR);
    }

    private static void alike() {
        DESK.begin("17: UNKNOWN (0 is the GOAL); OUTSIDE: no FACT", 4);
        DESK.askFrom(-1, "alike(#, 0, 0, 1, 2, 3)", UNKNOWN, UNKNOWN, UNKNOWN);
        DESK.rows("line A B C", "par A B C D");
        DESK.askFrom(-1, "alike(#, 0, 2, 0, 1, 3)", UNKNOWN, UNKNOWN, 1, 0, UNKNOWN);
        DESK.goal("line A B C", 1);
        DESK.askFrom(-1, "alike(#, 0, 2, 0, 1, 3)", UNKNOWN, 1, 1, 0, UNKNOWN);
        DESK.askEach("alike(#, 0, 2, 0, 1, 3)", UNKNOWN, Desk.FAR);
        DESK.askFrom(-1, "alike(2, #, 0, 1, 2, 3)", OUTSIDE, 0, 1, 0, 0, 0, 0, 0, OUTSIDE);
        DESK.askEach("alike(1, #, 0, 1, 2, 3)", OUTSIDE, Desk.FAR);
        DESK.askFrom(-1, "alike(1, 0, #, 1, 2, 0)", OUTSIDE, 1, OUTSIDE, OUTSIDE, 0, OUTSIDE);
        DESK.askFrom(-1, "alike(1, 0, 0, #, 2, 0)", OUTSIDE, OUTSIDE, 1, OUTSIDE, 0, OUTSIDE);
        DESK.askFrom(-1, "alike(1, 0, 0, 1, #, 0)", OUTSIDE, OUTSIDE, OUTSIDE, 1, 0, OUTSIDE);
        DESK.askFrom(-1, "alike(1, 0, 0, 1, 2, #)", 1, 1, 1, 1, 1, 1);
        DESK.askFrom(-1, "alike(2, 1, 0, 1, 2, #)", OUTSIDE, 0, 0, OUTSIDE, 1, OUTSIDE);
        DESK.askEach("alike(1, 0, 0, 1, 2, #)", 1, Desk.FAR);
        DESK.askEach("alike(2, 1, 0, 1, 2, #)", OUTSIDE, Desk.FAR);
        DESK.ask("alike(2, 1, 0, 1, 1, 0)", OUTSIDE);
    }

    private static void grade() {
        DESK.begin("18: the number of the first one that is not RIGHT, 0: all are");
        DESK.ask("grade()", 0);
        DESK.ask("points(3)", 1);
        DESK.ask("grade()", 0);
        for (int i = 1; i <= 39; i++) DESK.row("btw A B C given", i);
        DESK.ask("grade()", 0);
        DESK.row("mid A B C", 40);
        DESK.ask("grade()", 40);
        DESK.ask("grade()", 40);
        DESK.ask("back()", 39);
        DESK.ask("grade()", 0);
        DESK.row("mid A B C by 15 of 40", 40);
        DESK.ask("grade()", 40);
        DESK.begin("18: the number, not the turn", 3);
        DESK.rows("line A B C by 5 of 3", "mid A B C", "eq A B A C");
        DESK.ask("grade()", 1);
        DESK.askFrom(1, "order(#)", 3, 1, 2);
        DESK.begin("18: by the FIGURES as they are", 3);
        DESK.rows("btw A B C seen");
        DESK.ask("figure()", 0);
        DESK.draw(0, 1, 0, 0, 0, 2, 0);
        DESK.ask("grade()", 0);
        DESK.ask("place(0, 0, 3, 0)", 1);
        DESK.ask("grade()", 1);
        DESK.ask("place(0, 0, 1, 0)", 1);
        DESK.ask("grade()", 0);
    }

    /** What a grading has left behind must not crowd out a later one, be it the hundredth. */
    private static void gradedManyTimes() {
        DESK.begin("18: All rows are graded, as if for the first time", 7);
        DESK.rows("par B C C F given", "par F E F A given", "eq G E C A given", "par E F E G given", "par G A G B given",
            "par A F F C given", "par F C D C given", "circ A B C D");
        DESK.ask("figure()", 0);
        for (int i = 0; i < 100; i++) {
            DESK.ask("place(0, 0, 0, 0)", 1);
            DESK.ask("grade()", 8);
        }
        DESK.askFrom(0, "reached(#)", 7, 11, 43, 90, 89, 6);
        DESK.ask("place(0, 0, 0, 0)", 1);
        DESK.ask("grade()", 8);
        DESK.ask("reached(5)", 6);
    }

    /** Promises 19 to 22 and 24: rows that there are not, with and without a grade(). */
    private static void gradedRows() {
        String[] calls = {"verdict", "way", "gap", "counter", "order"};
        int[] wants = {1, 1, 0, NONE, 1};
        for (int i = 0; i < calls.length; i++) {
            DESK.begin("19 to 24: UNKNOWN; STATE, of " + calls[i], 3);
            DESK.askEach(calls[i] + "(#)", UNKNOWN, "-1", "0", "1", "40", "41");
            DESK.rows("btw A B C given", "btw A B C given");
            DESK.goal("btw A B C", 1);
            DESK.askFrom(-1, calls[i] + "(#)", UNKNOWN, UNKNOWN, STATE, STATE, UNKNOWN);
            DESK.askEach(calls[i] + "(#)", UNKNOWN, Desk.FAR);
            DESK.ask("grade()", 0);
            DESK.askFrom(-1, calls[i] + "(#)", UNKNOWN, UNKNOWN, wants[i], calls[i].equals("order") ? 2 : wants[i], UNKNOWN);
            DESK.askEach(calls[i] + "(#)", UNKNOWN, "39", "40", "41");
            DESK.askEach(calls[i] + "(#)", UNKNOWN, Desk.FAR);
        }
    }

    private static void isUngraded(String since) {
        DESK.askEach("#(1)", STATE, "verdict", "way", "gap", "counter", "order");
        DESK.askEach("circle(#)", STATE, "-1", "0", "40", "MIN", "MAX");
        DESK.askFrom(-1, "marks(#)", OUTSIDE, STATE, STATE, OUTSIDE);
        DESK.askFrom(-1, "hint(#)", OUTSIDE, STATE, STATE, STATE, STATE, STATE, STATE, OUTSIDE);
        DESK.ask("level(0, 0, 1, 2, 0)", STATE);
        DESK.ask("level(0, 0, 1, 1, 0)", OUTSIDE);
        DESK.askFrom(-1, "reached(#)", OUTSIDE, STATE, STATE, STATE, STATE, STATE, STATE, OUTSIDE);
        DESK.askFrom(5, "told(#)", 0, 0, 0);
        DESK.ask("grade()", 0);
        DESK.ask("told(5)", DESK.call("told(2)"));
        DESK.due("graded anew after " + since, DESK.call("verdict(1)"), 1);
    }

    private static void noneSinceTheseCalls() {
        DESK.begin("19: STATE: none since row(), back(), place(), figure(), points()", 3);
        DESK.rows("btw A B C given");
        isUngraded("a new object");
        DESK.rows("btw A B C given");
        isUngraded("row()");
        DESK.ask("back()", 1);
        isUngraded("back()");
        DESK.ask("figure()", 0);
        isUngraded("figure()");
        DESK.ask("place(0, 0, 0, 0)", 1);
        isUngraded("place()");
        DESK.ask("place(0, 0, 0, 0)", 1);
        isUngraded("place() as it was");
        DESK.begin("19: STATE: none since points()", 3);
        DESK.ask("grade()", 0);
        DESK.ask("marks(0)", 0);
        DESK.ask("points(3)", 1);
        DESK.ask("marks(0)", STATE);
        DESK.ask("circle(0)", STATE);
        DESK.ask("grade()", 0);
        DESK.ask("circle(0)", NONE);
    }

    private static void stillGradedAfterOthers() {
        DESK.begin("19: by the latest grade(), whatever else was called", 3);
        DESK.rows("mid A B C given", "line A B C");
        DESK.ask("figure()", 0);
        DESK.ask("grade()", 0);
        DESK.goal("btw A B C", 1);
        DESK.ask("language(1)", 0);
        DESK.word(1, 0, "x", 1);
        DESK.type("x");
        DESK.ask("wipe()", 1);
        DESK.ask("holds(0, 0, 0, 1, 2, 3)", 0);
        DESK.ask("good(0)", 0);
        DESK.refuse("x A B#");
        DESK.goal("x", -101);
        DESK.ask("points(4)", STATE);
        DESK.ask("points(8)", OUTSIDE);
        DESK.ask("place(0, 0, 0, 1001)", OUTSIDE);
        DESK.ask("place(1, 0, 0, 0)", UNKNOWN);
        DESK.askFrom(1, "way(#)", 1, 5);
        DESK.askFrom(1, "gap(#)", 0, 2);
        DESK.askFrom(0, "marks(#)", 1, 7);
        DESK.askFrom(0, "hint(#)", 1, BTW, 0, 1, 2, NONE);
        DESK.begin("19: a refused back() leaves it", 3);
        DESK.ask("grade()", 0);
        DESK.ask("back()", STATE);
        DESK.ask("marks(0)", 0);
        for (int i = 0; i < 6; i++) DESK.ask("figure()", i);
        DESK.ask("grade()", 0);
        DESK.ask("figure()", FULL);
        DESK.ask("marks(0)", 0);
        for (int i = 1; i <= 40; i++) DESK.row("line A B C given", i);
        DESK.ask("grade()", 0);
        DESK.row("line A B C", FULL);
        DESK.ask("verdict(40)", 1);
    }

    private static void counter() {
        DESK.begin("22: COUNTER; NONE", 3);
        DESK.rows("mid A B C", "btw A B C given");
        for (int i = 0; i < 6; i++) {
            DESK.ask("figure()", i);
            DESK.draw(i, 1, 0, 0, 0, 2, 0);
        }
        DESK.ask("grade()", 1);
        DESK.askFrom(1, "counter(#)", NONE, NONE);
        for (int i = 5; i >= 0; i--) {
            DESK.ask("place(" + i + ", 2, 3, 0)", 1);
            DESK.ask("grade()", 1);
            DESK.askFrom(1, "counter(#)", i, NONE);
            DESK.ask("verdict(1)", 0);
        }
    }

    private static void circle() {
        DESK.begin("23: NONE. STATE", 3);
        DESK.ask("circle(0)", STATE);
        DESK.ask("grade()", 0);
        DESK.askFrom(-1, "circle(#)", NONE, NONE, NONE);
        DESK.rows("line A B C by 5 of 2", "line A B C by 5 of 1");
        DESK.askFrom(-1, "circle(#)", STATE, STATE, STATE);
        DESK.ask("grade()", 1);
        DESK.askFrom(-1, "circle(#)", NONE, 1, 2, NONE);
        DESK.askEach("circle(#)", NONE, "39", "40", "41");
        DESK.askEach("circle(#)", NONE, Desk.FAR);
        DESK.ask("back()", 1);
        DESK.ask("grade()", 1);
        DESK.askFrom(0, "circle(#)", NONE, NONE);
    }

    private static void order() {
        DESK.begin("24: As the so many-th a row was graded, from 1 on; NONE: it is CIRCULAR", 3);
        DESK.rows("line A B C by 5 of 1", "line A B C by 5 of 4", "line A B C by 5 of 1", "line A B C");
        DESK.ask("grade()", 1);
        DESK.askFrom(1, "order(#)", NONE, 2, NONE, 1);
        DESK.begin("24: the last row first", 3);
        for (int i = 1; i <= 40; i++) DESK.row("line A B C by 5 of " + (i + 1), i);
        DESK.ask("grade()", 1);
        for (int i = 1; i <= 40; i++) DESK.ask("order(" + i + ")", 41 - i);
    }

    private static void marks() {
        DESK.begin("25: OUTSIDE; STATE", 3);
        DESK.askFrom(-1, "marks(#)", OUTSIDE, STATE, STATE, OUTSIDE);
        DESK.askEach("marks(#)", OUTSIDE, Desk.FAR);
        DESK.ask("grade()", 0);
        DESK.askFrom(-1, "marks(#)", OUTSIDE, 0, 0, OUTSIDE);
        DESK.askEach("marks(#)", OUTSIDE, Desk.FAR);
        DESK.begin("25: at most, of as many rows as there can be", 3);
        for (int i = 1; i <= 40; i++) DESK.row(i == 20 ? "btw A B C given" : "line A B C by 5 of 20", i);
        DESK.ask("grade()", 0);
        DESK.askFrom(0, "marks(#)", 2, 78);
        DESK.goal("line C B A", 1);
        DESK.askFrom(0, "marks(#)", 7, 83);
        DESK.begin("25: nothing got, of as many rows as there can be", 3);
        for (int i = 1; i <= 40; i++) DESK.row("line A B C", i);
        DESK.goal("line A B C", 1);
        DESK.ask("grade()", 1);
        DESK.askFrom(0, "marks(#)", 0, 85);
        DESK.begin("25: all rows GIVEN", 3);
        for (int i = 1; i <= 40; i++) DESK.row("line A B C given", i);
        DESK.ask("grade()", 0);
        DESK.askFrom(0, "marks(#)", 0, 0);
    }

    private static void hint() {
        DESK.begin("26: OUTSIDE: what is not 0 .. 5. STATE", 3);
        DESK.askFrom(-1, "hint(#)", OUTSIDE, STATE, STATE, STATE, STATE, STATE, STATE, OUTSIDE);
        DESK.askEach("hint(#)", OUTSIDE, Desk.FAR);
        DESK.goal("eq A B A C", 1);
        DESK.ask("hint(0)", STATE);
        DESK.ask("grade()", 0);
        DESK.askFrom(-1, "hint(#)", OUTSIDE, NONE, NONE, NONE, NONE, NONE, NONE, OUTSIDE);
        DESK.rows("mid A B C given");
        DESK.ask("grade()", 0);
        DESK.askFrom(-1, "hint(#)", OUTSIDE, 1, EQ, 0, 1, 0, 2, OUTSIDE);
        DESK.askEach("hint(#)", OUTSIDE, Desk.FAR);
        DESK.goal("btw A B C", 1);
        DESK.askFrom(-1, "hint(#)", OUTSIDE, 1, BTW, 0, 1, 2, NONE, OUTSIDE);
        DESK.goal("mid A B C", 1);
        DESK.askFrom(-1, "hint(#)", OUTSIDE, 0, NONE, NONE, NONE, NONE, NONE, OUTSIDE);
        DESK.goal("mid B A C", 1);
        DESK.askFrom(-1, "hint(#)", OUTSIDE, NONE, NONE, NONE, NONE, NONE, NONE, OUTSIDE);
    }

    private static void level() {
        DESK.begin("27: OUTSIDE: no FACT; STATE", 4);
        DESK.askFrom(-1, "level(#, 0, 1, 2, 3)", OUTSIDE, STATE, STATE, STATE, STATE, STATE, STATE, STATE, OUTSIDE);
        DESK.rows("mid A B C given", "par A B C D given");
        DESK.ask("grade()", 0);
        DESK.askFrom(-1, "level(#, 0, 1, 2, 3)", OUTSIDE, 2, 0, NONE, NONE, 0, NONE, 1, OUTSIDE);
        DESK.askEach("level(#, 0, 1, 2, 3)", OUTSIDE, Desk.FAR);
        DESK.askFrom(-1, "level(0, #, 1, 2, 0)", OUTSIDE, 2, OUTSIDE, OUTSIDE, 4, OUTSIDE);
        DESK.askFrom(-1, "level(0, 0, #, 2, 0)", OUTSIDE, OUTSIDE, 2, OUTSIDE, 4, OUTSIDE);
        DESK.askFrom(-1, "level(0, 0, 1, #, 0)", OUTSIDE, OUTSIDE, OUTSIDE, 2, 5, OUTSIDE);
        DESK.askFrom(-1, "level(0, 0, 1, 2, #)", 2, 2, 2, 2, 2, 2);
        DESK.askFrom(-1, "level(1, 0, 1, 2, #)", OUTSIDE, 4, 4, OUTSIDE, 0, OUTSIDE);
        DESK.askEach("level(4, 0, 1, 2, #)", 0, Desk.FAR);
        DESK.askEach("level(1, 0, 1, 2, #)", OUTSIDE, Desk.FAR);
        DESK.askEach("level(1, #, 1, 2, 3)", OUTSIDE, Desk.FAR);
    }

    private static void reached() {
        DESK.begin("28: OUTSIDE; STATE", 3);
        DESK.askFrom(-1, "reached(#)", OUTSIDE, STATE, STATE, STATE, STATE, STATE, STATE, OUTSIDE);
        DESK.askEach("reached(#)", OUTSIDE, Desk.FAR);
        DESK.ask("grade()", 0);
        DESK.askFrom(-1, "reached(#)", OUTSIDE, 0, 0, 0, 0, 0, 0, OUTSIDE);
        DESK.rows("mid A B C given", "mid A C B given", "eq A B B C");
        DESK.ask("grade()", 3);
        DESK.askFrom(-1, "reached(#)", OUTSIDE, 1, 2, 1, 0, 0, 0, OUTSIDE);
        DESK.askEach("reached(#)", OUTSIDE, Desk.FAR);
    }

    private static void told() {
        DESK.begin("29: OUTSIDE", 3);
        DESK.askFrom(-1, "told(#)", OUTSIDE, 3, 0, 0, 0, 0, 0, 0, 0, OUTSIDE);
        DESK.askEach("told(#)", OUTSIDE, Desk.FAR);
        DESK.begin("29: How many, of all that there can be", 7);
        for (int i = 0; i < 6; i++) {
            DESK.ask("figure()", i);
            DESK.draw(i, 1, i, 0, i, 2, i, 3, 9, 4, 8, 5, 7, 6, 5);
        }
        DESK.goal("btw A B C", 1);
        for (int i = 1; i <= 40; i++) DESK.row(i % 2 == 0 ? "btw A B C seen" : "btw A B C by 4 of " + i, i);
        for (int i = 1; i <= 15; i++) DESK.ask("feed(0, 8)", 8 * i);
        DESK.askFrom(0, "told(#)", 7, 6, 40, 120, 1, 0, 0, 0);
        DESK.ask("grade()", 1);
        DESK.askFrom(0, "told(#)", 7, 6, 40, 120, 1, 20, 20, 1);
        DESK.ask("back()", 39);
        DESK.askFrom(0, "told(#)", 7, 6, 39, 120, 1, 0, 0, 0);
    }
}
