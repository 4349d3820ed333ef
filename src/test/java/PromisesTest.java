/** Each promise of the document: ordinary inputs, the edges that it names, and wrong inputs. */
public final class PromisesTest {
    private static final int UNKNOWN = -1, OUTSIDE = -2, STATE = -3, FULL = -4, NONE = -5;
    private static final int LEAST = Integer.MIN_VALUE, MOST = Integer.MAX_VALUE;
    private static final int COL = 0, PAR = 1, PERP = 2, EQ = 3, MID = 4, CIRC = 5, BTW = 6;

    private final Typist typist = new Typist("PromisesTest");
    private int promise;
    private RowGrader x;

    public static void main(String[] args) {
        PromisesTest test = new PromisesTest();
        test.newObject();
        test.points();
        test.figure();
        test.place();
        test.placed();
        test.good();
        test.holds();
        test.holdsExactly();
        test.feed();
        test.wipe();
        test.language();
        test.word();
        test.row();
        test.rowFaults();
        test.rowReasonFaults();
        test.goal();
        test.back();
        test.fact();
        test.factNormal();
        test.because();
        test.alike();
        test.grade();
        test.gradingIsSpent();
        test.verdict();
        test.way();
        test.wayBySixRows();
        test.rightNoMore();
        test.waysOfRules();
        test.lettersMayBeTheSame();
        test.gap();
        test.counter();
        test.circle();
        test.order();
        test.marks();
        test.hint();
        test.hintByTheLeast();
        test.level();
        test.reached();
        test.told();
        test.typist.end();
    }

    private void due(String call, long got, long want) {
        typist.due("promise " + promise + ", " + call, got, want);
    }

    private void begin(int number, int points) {
        promise = number;
        x = new RowGrader();
        if (points > 0) due("points(" + points + ")", x.points(points), 1);
    }

    private int row(String text) {
        return Typist.row(x, text);
    }

    private void rows(String... texts) {
        int before = x.told(2);
        for (int i = 0; i < texts.length; i++) due("row " + texts[i], row(texts[i]), before + i + 1);
    }

    private void goalIs(String text) {
        due("goal " + text, Typist.goal(x, text), 1);
    }

    private void draw(int figure, int... places) {
        for (int p = 0; 2 * p < places.length; p++) due("place", x.place(figure, p, places[2 * p], places[2 * p + 1]), 1);
    }

    private void newObject() {
        begin(1, 0);
        for (int what = 0; what < 8; what++) due("told(" + what + ")", x.told(what), 0);
        due("wipe()", x.wipe(), 0);
        due("good(0)", x.good(0), UNKNOWN);
        due("fact(0, 0)", x.fact(0, 0), UNKNOWN);
        due("fact(1, 0)", x.fact(1, 0), UNKNOWN);
        due("language(0)", x.language(0), 0);
        due("marks(0)", x.marks(0), STATE);
        due("circle(0)", x.circle(0), STATE);
        due("level of no points", x.level(COL, 0, 1, 2, 0), OUTSIDE);
        due("grade()", x.grade(), 0);
        due("marks(1)", x.marks(1), 0);
        due("reached(0)", x.reached(0), 0);
        due("hint(0)", x.hint(0), NONE);
        RowGrader other = new RowGrader();
        other.points(3);
        Typist.type(other, "line A B C");
        due("another object's points", x.told(0), 0);
        due("another object's tape", x.told(3), 0);
    }

    private void points() {
        begin(2, 0);
        for (int n : new int[] {LEAST, -2, 0, 1, 8, 9, MOST}) due("points(" + n + ")", x.points(n), OUTSIDE);
        due("told(0)", x.told(0), 0);
        for (int n = 2; n <= 7; n++) {
            due("points(" + n + ")", x.points(n), 1);
            due("told(0)", x.told(0), n);
        }
        due("points(2)", x.points(2), 1);
        x.points(3);
        rows("line A B C");
        due("points with rows", x.points(4), STATE);
        due("points(8) with rows", x.points(8), OUTSIDE);
        x.back();
        due("points without rows again", x.points(4), 1);
        goalIs("line A B C");
        due("points with a goal", x.points(4), STATE);
        begin(2, 3);
        x.figure();
        due("points with figures", x.points(3), STATE);
        due("told(0)", x.told(0), 3);
        begin(2, 3);
        Typist.type(x, "line");
        due("points leave the tape", x.points(4) + x.told(3), 5);
    }

    private void figure() {
        begin(3, 0);
        due("figure() without points", x.figure(), STATE);
        due("told(1)", x.told(1), 0);
        x.points(2);
        for (int i = 0; i < 6; i++) due("figure()", x.figure(), i);
        due("figure() when full", x.figure(), FULL);
        due("told(1)", x.told(1), 6);
        due("placed in a new one", x.placed(5, 0, 0), -2003);
        due("good(6)", x.good(6), UNKNOWN);
    }

    private void place() {
        begin(4, 3);
        due("place without figures", x.place(0, 0, 0, 0), UNKNOWN);
        x.figure();
        due("place", x.place(0, 2, -1000, 1000), 1);
        due("x", x.placed(0, 2, 0), -1000);
        due("y", x.placed(0, 2, 1), 1000);
        due("place again", x.place(0, 2, 1000, -1000), 1);
        due("x", x.placed(0, 2, 0), 1000);
        due("y", x.placed(0, 2, 1), -1000);
        for (int bad : new int[] {LEAST, -1001, 1001, MOST}) {
            due("place x " + bad, x.place(0, 2, bad, 0), OUTSIDE);
            due("place y " + bad, x.place(0, 2, 0, bad), OUTSIDE);
        }
        for (int bad : new int[] {LEAST, -1, 1, 6, MOST}) due("place figure " + bad, x.place(bad, 0, 0, 0), UNKNOWN);
        for (int bad : new int[] {LEAST, -1, 3, 7, MOST}) due("place point " + bad, x.place(0, bad, 0, 0), UNKNOWN);
        due("place unknown first", x.place(0, 3, 5000, 0), UNKNOWN);
        due("x is as it was", x.placed(0, 2, 0), 1000);
        due("y is as it was", x.placed(0, 2, 1), -1000);
    }

    private void placed() {
        begin(5, 2);
        due("placed without figures", x.placed(0, 0, 0), -2001);
        x.figure();
        x.figure();
        due("placed without a place", x.placed(1, 1, 0), -2003);
        x.place(1, 1, -3, 7);
        due("x", x.placed(1, 1, 0), -3);
        due("y", x.placed(1, 1, 1), 7);
        due("the other figure", x.placed(0, 1, 1), -2003);
        due("the other point", x.placed(1, 0, 1), -2003);
        for (int bad : new int[] {LEAST, -1, 2, MOST}) {
            due("side " + bad, x.placed(1, 1, bad), -2002);
            due("point " + bad, x.placed(1, bad, 0), -2001);
            due("figure " + bad, x.placed(bad, 1, 0), -2001);
            due("unknown first", x.placed(bad, 1, 5), -2001);
            due("side ahead of the place", x.placed(0, 1, bad), -2002);
        }
    }

    private void good() {
        begin(6, 3);
        due("good(0)", x.good(0), UNKNOWN);
        x.figure();
        due("without places", x.good(0), 0);
        draw(0, 0, 0, 4, 0);
        due("one lacks a place", x.good(0), 0);
        x.place(0, 2, 4, 0);
        due("two at one place", x.good(0), 0);
        x.place(0, 2, 2, 0);
        due("all apart", x.good(0), 1);
        rows("mid C A B given", "mid A B C", "mid B A C by 3");
        due("only the given rows count", x.good(0), 1);
        rows("perp A B A C given");
        due("a given row fails", x.good(0), 0);
        x.back();
        due("it is gone", x.good(0), 1);
        x.place(0, 2, 2, 1);
        due("moved away", x.good(0), 0);
        for (int bad : new int[] {LEAST, -1, 1, 6, MOST}) due("good " + bad, x.good(bad), UNKNOWN);
    }

    private void holds() {
        begin(7, 5);
        due("without figures", x.holds(0, COL, 0, 1, 2, 0), UNKNOWN);
        x.figure();
        draw(0, 0, 0, 4, 0, 2, 0, 2, 2);
        due("COL", x.holds(0, COL, 0, 1, 2, -99), 1);
        due("COL not", x.holds(0, COL, 0, 1, 3, 0), 0);
        due("PAR on one line", x.holds(0, PAR, 0, 1, 2, 1), 1);
        due("PAR not", x.holds(0, PAR, 0, 1, 2, 3), 0);
        due("PERP", x.holds(0, PERP, 0, 1, 2, 3), 1);
        due("PERP not", x.holds(0, PERP, 0, 1, 0, 3), 0);
        due("EQ", x.holds(0, EQ, 0, 2, 2, 3), 1);
        due("EQ not", x.holds(0, EQ, 0, 2, 0, 1), 0);
        due("MID", x.holds(0, MID, 2, 0, 1, 77), 1);
        due("MID not", x.holds(0, MID, 0, 2, 1, 0), 0);
        due("MID not, half", x.holds(0, MID, 3, 0, 1, 0), 0);
        due("BTW", x.holds(0, BTW, 2, 1, 0, MOST), 1);
        due("BTW beyond", x.holds(0, BTW, 1, 0, 2, 0), 0);
        due("BTW beside", x.holds(0, BTW, 3, 0, 1, 0), 0);
        due("a point without a place", x.holds(0, COL, 0, 1, 4, 0), 0);
        due("EQ without a place", x.holds(0, EQ, 0, 1, 0, 4), 0);
        holdsWithout(0);
        holdsWithout(1);
        holdsWithout(2);
        holdsWithout(3);
        for (int bad : new int[] {LEAST, -1, 5, 7, MOST}) {
            due("figure " + bad, x.holds(bad, COL, 0, 1, 2, 0), UNKNOWN);
            due("unknown first", x.holds(bad, bad, 0, 0, 0, 0), UNKNOWN);
            due("a " + bad, x.holds(0, COL, bad, 1, 2, 0), OUTSIDE);
            due("b " + bad, x.holds(0, MID, 0, bad, 2, 0), OUTSIDE);
            due("c " + bad, x.holds(0, BTW, 0, 1, bad, 0), OUTSIDE);
            due("d " + bad, x.holds(0, CIRC, 0, 1, 2, bad), OUTSIDE);
        }
        for (int bad : new int[] {LEAST, -1, 7, MOST}) due("kind " + bad, x.holds(0, bad, 0, 1, 2, 3), OUTSIDE);
        for (int kind = PAR; kind <= EQ; kind++) {
            due("a is b", x.holds(0, kind, 1, 1, 2, 3), OUTSIDE);
            due("c is d", x.holds(0, kind, 0, 1, 2, 2), OUTSIDE);
            due("one pair twice", x.holds(0, kind, 0, 1, 0, 1), OUTSIDE);
            due("one pair turned", x.holds(0, kind, 0, 1, 1, 0), OUTSIDE);
        }
        for (int kind : new int[] {COL, MID, CIRC, BTW}) {
            due("a is b", x.holds(0, kind, 1, 1, 2, 3), OUTSIDE);
            due("a is c", x.holds(0, kind, 2, 1, 2, 3), OUTSIDE);
            due("b is c", x.holds(0, kind, 1, 2, 2, 3), OUTSIDE);
        }
        due("CIRC d is a", x.holds(0, CIRC, 0, 1, 2, 0), OUTSIDE);
        due("CIRC d is b", x.holds(0, CIRC, 0, 1, 2, 1), OUTSIDE);
        due("CIRC d is c", x.holds(0, CIRC, 0, 1, 2, 2), OUTSIDE);
    }

    /** One point has no place: nothing that names it holds, though it would with the place 0, 0. */
    private void holdsWithout(int lost) {
        RowGrader y = new RowGrader();
        y.points(4);
        y.figure();
        int[] places = {0, 0, -1, 0, 1, 0, 2, 0};
        int[] square = {0, 0, 0, 1, 1, 1, 1, 0};
        for (int p = 0; p < 4; p++) {
            int q = (p + 4 - lost) % 4;
            if (p != lost) y.place(0, p, places[2 * q], places[2 * q + 1]);
        }
        int b = (lost + 1) % 4;
        int c = (lost + 2) % 4;
        int d = (lost + 3) % 4;
        due("COL without " + lost, y.holds(0, COL, lost, b, c, 0), 0);
        due("PAR without " + lost, y.holds(0, PAR, lost, b, c, d), 0);
        due("EQ without " + lost, y.holds(0, EQ, lost, b, c, d), 0);
        due("MID without " + lost, y.holds(0, MID, lost, b, c, 0), 0);
        due("BTW without " + lost, y.holds(0, BTW, lost, b, c, 0), 0);
        due("COL with all the others", y.holds(0, COL, b, c, d, 0), 1);
        for (int p = 0; p < 4; p++) {
            int q = (p + 4 - lost) % 4;
            if (p != lost) y.place(0, p, square[2 * q], square[2 * q + 1]);
        }
        due("CIRC without " + lost, y.holds(0, CIRC, lost, b, c, d), 0);
        due("PERP without " + lost, y.holds(0, PERP, lost, b, c, b), 0);
        y.place(0, lost, 0, 0);
        due("CIRC with it", y.holds(0, CIRC, lost, b, c, d), 1);
        due("PERP with it", y.holds(0, PERP, lost, b, c, b), 1);
    }

    private void holdsExactly() {
        begin(7, 5);
        x.figure();
        draw(0, -1000, -1000, 1000, 1000, 1000, -1000, -1000, 1000, 999, 1000);
        due("CIRC at the corners", x.holds(0, CIRC, 0, 1, 2, 3), 1);
        due("CIRC nearly", x.holds(0, CIRC, 0, 4, 2, 3), 0);
        due("PERP of the longest", x.holds(0, PERP, 0, 1, 2, 3), 1);
        due("PERP nearly", x.holds(0, PERP, 0, 4, 2, 3), 0);
        due("EQ of the longest", x.holds(0, EQ, 0, 1, 2, 3), 1);
        due("EQ nearly", x.holds(0, EQ, 0, 4, 2, 3), 0);
        x.place(0, 4, 0, 1);
        due("COL nearly", x.holds(0, COL, 0, 1, 4, 0), 0);
        due("MID nearly", x.holds(0, MID, 4, 0, 1, 0), 0);
        x.place(0, 4, 0, 0);
        due("MID", x.holds(0, MID, 4, 0, 1, 0), 1);
        due("CIRC with three on a line", x.holds(0, CIRC, 0, 1, 4, 2), 0);
        x.place(0, 4, -1000, -1000);
        due("CIRC with one place twice", x.holds(0, CIRC, 0, 1, 2, 4), 0);
        due("PAR of no length", x.holds(0, PAR, 0, 4, 1, 2), 1);
        due("BTW at an end", x.holds(0, BTW, 4, 0, 1, 0), 0);
        draw(0, 0, 0, 1, 0, 1, 1, 0, 1, 2, 0);
        due("CIRC of the least square", x.holds(0, CIRC, 0, 1, 2, 3), 1);
        due("CIRC of another four", x.holds(0, CIRC, 4, 1, 2, 3), 0);
        due("COL of the least", x.holds(0, COL, 0, 1, 4, 0), 1);
        draw(0, 0, 1, 0, 0, 1, 0, 1, 1);
        due("CIRC of the least square, turned", x.holds(0, CIRC, 0, 1, 2, 3), 1);
        draw(0, 0, 0, 0, 1, 1, 1, 1, 0);
        due("CIRC of the least square, the other way round", x.holds(0, CIRC, 0, 1, 2, 3), 1);
        draw(0, 0, 0, 1, 1, 1, 0, 0, 1);
        due("CIRC of the least square, crossed", x.holds(0, CIRC, 0, 1, 2, 3), 1);
        draw(0, 5, 0, 3, 4, -4, 3, 0, -5, -3, -4);
        due("CIRC of many", x.holds(0, CIRC, 0, 1, 2, 3), 1);
        due("CIRC of many", x.holds(0, CIRC, 4, 1, 0, 3), 1);
    }

    private void feed() {
        begin(8, 0);
        for (int bad : new int[] {LEAST, -1, 0, 9, MOST}) due("feed n " + bad, x.feed(65, bad), OUTSIDE);
        due("told(3)", x.told(3), 0);
        due("feed", x.feed(0x6D69642041204220L, 8), 8);
        due("feed the lowest", x.feed(0x7777777777777743L, 1), 9);
        x.points(3);
        due("the highest of these first", x.row(), 1);
        due("MID", x.fact(1, 0), MID);
        for (int i = 1; i <= 15; i++) due("feed", x.feed(-1L, 8), 8 * i);
        due("feed when full", x.feed(0, 1), FULL);
        due("OUTSIDE ahead of FULL", x.feed(0, 9), OUTSIDE);
        due("told(3)", x.told(3), 120);
        x.wipe();
        for (int i = 1; i <= 14; i++) x.feed(0x2020202020202020L, 8);
        due("feed to 119", x.feed(0, 7), 119);
        due("feed beyond", x.feed(0, 2), FULL);
        due("feed to 120", x.feed(0, 1), 120);
        due("all bytes are there", x.row(), -212);
    }

    private void wipe() {
        begin(9, 3);
        due("wipe()", x.wipe(), 0);
        Typist.type(x, "line A B C xx");
        due("wipe()", x.wipe(), 13);
        due("wipe() again", x.wipe(), 0);
        due("told(3)", x.told(3), 0);
        rows("line A B C");
    }

    private void language() {
        begin(10, 3);
        due("language(1)", x.language(1), 0);
        due("language(1)", x.language(1), 1);
        for (int bad : new int[] {LEAST, -1, 2, MOST}) due("language " + bad, x.language(bad), UNKNOWN);
        rows("line A B C given");
        due("a word of 1", Typist.word(x, 1, 0, "linie"), 1);
        due("the former word", row("line A B C"), -100);
        rows("linie A B C");
        due("language(0)", x.language(0), 1);
        due("the word of 1 in 0", row("linie A B C"), -100);
        rows("line A B C");
    }

    private void word() {
        begin(11, 3);
        String[] first = {"line", "par", "perp", "eq", "mid", "circ", "btw", "given", "seen", "by", "of"};
        for (int l = 0; l < 2; l++) {
            for (int i = 0; i < 11; i++) {
                due("the same again", Typist.word(x, l, i, first[i]), 1);
                due("another's", Typist.word(x, l, i, first[(i + 1) % 11]), STATE);
            }
        }
        due("tape after STATE", x.told(3), 0);
        Typist.type(x, "abc");
        for (int bad : new int[] {LEAST, -1, 2, MOST}) due("language " + bad, x.word(bad, 99), UNKNOWN);
        for (int bad : new int[] {LEAST, -1, 11, MOST}) due("which " + bad, x.word(0, bad), OUTSIDE);
        due("the tape stays", x.told(3), 3);
        due("it is a word", x.word(0, 10), 1);
        due("tape after that", x.told(3), 0);
        due("eight letters", Typist.word(x, 0, 9, "  abcdefgh "), 1);
        due("nine letters", Typist.word(x, 0, 9, " abcdefghi"), -101);
        due("tape after a fault", x.told(3), 0);
        due("nothing", Typist.word(x, 0, 9, ""), -100);
        due("blanks", Typist.word(x, 0, 9, "   "), -103);
        due("two words", Typist.word(x, 0, 9, "ab  cd"), -104);
        due("a number", Typist.word(x, 0, 9, "1"), -100);
        due("a point", Typist.word(x, 0, 9, "A"), -100);
        due("a fault ahead of STATE", Typist.word(x, 0, 9, "line 1"), -105);
        for (String bad : new String[] {"a`", "a{", "aB", "a1", "a\0", "a\u00e9"}) due("word " + bad, Typist.word(x, 0, 9, bad), -100);
        due("a to z", Typist.word(x, 0, 0, "az"), 1);
        rows("az A B C abcdefgh 9 abc 1");
        due("its reason", x.fact(1, 5), 3);
        due("a former word is free", Typist.word(x, 0, 1, "line"), 1);
        rows("line A B A C");
        due("PAR now", x.fact(2, 0), PAR);
        due("the other language", Typist.word(x, 1, 5, "az"), 1);
    }

    private void row() {
        begin(12, 0);
        Typist.type(x, "line A B C");
        due("row() without points", x.row(), STATE);
        due("the tape stays", x.told(3), 10);
        x.points(4);
        due("row()", x.row(), 1);
        due("the tape is empty", x.told(3), 0);
        rows("  par  A B   C D ", "perp A B C D given", "eq A B C D seen", "mid A B C by 0", "circ A B C D by 016 of 001 999 40 7 6 1",
            "btw A B C by 16 of 1");
        due("the rule", x.fact(6, 6), 16);
        due("how many", x.fact(6, 7), 6);
        due("row of", x.because(6, 1), 999);
        for (int i = 8; i <= 40; i++) rows("line A B C");
        due("a fault ahead of FULL", row("line A B"), -108);
        due("row 41", row("line A B C"), FULL);
        due("the tape is empty", x.told(3), 0);
        due("told(2)", x.told(2), 40);
        x.back();
        rows("line A B D");
    }

    private void rowFaults() {
        begin(12, 4);
        String[] texts = {
            "", "  ", "given A B C", "line", "line ", "line A B", "line A B  ", "line A B E", "line A B H", "line A B a", "line A B 1",
            "line A BC", "line A A B", "line A A B x", "line A A", "par A A B C", "par A B B A", "mid A B B", "circ A B C A", "A B C",
            "1 A B C", "line: A B C", "linee A B C", "line A B C D", "par A B C", "par A B C D D", "Line A B C", "line A B C\t", "\0",
            "line A B @", "line A B A given", "btw A A B given 1", "line of B C", "eq A B A B",
        };
        int[] places = {
            0, 2, 0, 4, 5, 8, 10, 9, 9, 9, 9, 7, 0, 0, 8, 0, 0, 0, 0, 0, 0, 0, 0, 11, 9, 12, 0, 9, 0, 9, 0, 0, 5, 0,
        };
        for (int i = 0; i < texts.length; i++) {
            due("row '" + texts[i] + "'", row(texts[i]), -100 - places[i]);
            due("the tape is empty", x.told(3), 0);
        }
        due("no rows", x.told(2), 0);
        rows("line A B D");
    }

    private void rowReasonFaults() {
        begin(12, 3);
        String line = "line A B C ";
        String[] texts = {
            "x", "given x", "given given", "seen 1", "given by 3", "by", "by ", "by x", "by A", "by 17", "by 999", "by 1000", "by -1",
            "by 3 4", "by 3 given", "by 3 of", "by 3 of ", "by 3 of 0", "by 3 of 000", "by 3 of x", "by 3 of 1 A", "by 3 of 1 1000",
            "by 3 of 1 2 3 4 5 6 7", "by 3 of 1 2 3 4 5 6 x", "by 3 of 1 of 2", "of 1", "line", "3", "by 3 by", "by 3 of 1 0",
        };
        int[] places = {
            0, 6, 6, 5, 6, 2, 3, 3, 3, 3, 3, 3, 3,
            5, 5, 7, 8, 8, 8, 8, 10, 10,
            20, 20, 10, 0, 0, 0, 5, 10,
        };
        for (int i = 0; i < texts.length; i++) due("row '" + line + texts[i] + "'", row(line + texts[i]), -111 - places[i]);
        due("no rows", x.told(2), 0);
    }

    private void goal() {
        begin(13, 0);
        Typist.type(x, "eq A B C D");
        due("goal() without points", x.goal(), STATE);
        due("the tape stays", x.told(3), 10);
        x.points(4);
        due("goal()", x.goal(), 1);
        due("the tape is empty", x.told(3), 0);
        due("told(4)", x.told(4), 1);
        due("kind", x.fact(0, 0), EQ);
        due("a reason", Typist.goal(x, "line A B C given"), -111);
        due("by", Typist.goal(x, "line A B C by 3"), -111);
        due("too short", Typist.goal(x, "line A B"), -108);
        due("no fact", Typist.goal(x, "  line A B B"), -102);
        due("empty", Typist.goal(x, ""), -100);
        due("the tape is empty", x.told(3), 0);
        due("the goal is as it was", x.fact(0, 0), EQ);
        goalIs(" line C B A ");
        due("another goal", x.fact(0, 0), COL);
        for (int i = 0; i < 40; i++) rows("line A B C");
        goalIs("line C B D");
        due("rows", x.told(2), 40);
    }

    private void back() {
        begin(14, 4);
        due("back() without rows", x.back(), STATE);
        rows("line A B C", "par A B C D by 3 of 1", "eq A B C D");
        due("back()", x.back(), 2);
        due("row 3 is gone", x.fact(3, 0), UNKNOWN);
        rows("btw A B C seen");
        due("another row 3", x.fact(3, 0), BTW);
        due("its rows of", x.fact(3, 7), 0);
        due("its rule", x.fact(3, 6), NONE);
        due("back()", x.back(), 2);
        due("back()", x.back(), 1);
        due("back()", x.back(), 0);
        due("back()", x.back(), STATE);
        goalIs("line A B C");
        due("the goal is no row", x.back(), STATE);
    }

    private void fact() {
        begin(15, 7);
        due("no goal", x.fact(0, 0), UNKNOWN);
        rows("perp G F E D by 7 of 3 2 1", "mid C G B given", "btw A C B seen", "line G A F");
        int[][] want = {
            {PERP, 3, 4, 5, 6, 3, 7, 3},
            {MID, 2, 1, 6, NONE, 1, NONE, 0},
            {BTW, 0, 1, 2, NONE, 2, NONE, 0},
            {COL, 0, 5, 6, NONE, 0, NONE, 0},
        };
        for (int i = 0; i < want.length; i++) {
            for (int what = 0; what < 8; what++) due("fact(" + (i + 1) + ", " + what + ")", x.fact(i + 1, what), want[i][what]);
        }
        goalIs("circ G D C A");
        int[] aim = {CIRC, 0, 2, 3, 6, 0, NONE, 0};
        for (int what = 0; what < 8; what++) due("fact(0, " + what + ")", x.fact(0, what), aim[what]);
        for (int bad : new int[] {LEAST, -1, 5, 41, MOST}) due("row " + bad, x.fact(bad, 9), UNKNOWN);
        for (int bad : new int[] {LEAST, -1, 8, MOST}) {
            due("what " + bad, x.fact(1, bad), OUTSIDE);
            due("what of the goal " + bad, x.fact(0, bad), OUTSIDE);
        }
    }

    /** All facts of seven points, typed as they come: the points told are the least of the alike ones. */
    private void factNormal() {
        begin(15, 7);
        String[] words = {"line", "par", "perp", "eq", "mid", "circ", "btw"};
        for (int kind = 0; kind < 7; kind++) {
            for (int i = 0; i < 2401; i++) {
                int[] p = {i / 343, i / 49 % 7, i / 7 % 7, i % 7};
                java.util.List<Integer> normal = Model.normal(kind, p);
                if (normal == null || normal.size() == 4 && p[3] > 0) continue;
                // An object serves 512 calls only.
                x = new RowGrader();
                x.points(7);
                StringBuilder text = new StringBuilder(words[kind]);
                for (int k = 0; k < normal.size() - 1; k++) text.append(' ').append((char) ('A' + p[k]));
                if (Typist.goal(x, text.toString()) != 1) due("goal " + text, 0, 1);
                for (int k = 0; k < 5; k++) {
                    int want = k < normal.size() ? normal.get(k) : NONE;
                    if (x.fact(0, k) != want) due("fact(0, " + k + ") of " + text, x.fact(0, k), want);
                }
            }
        }
    }

    private void because() {
        begin(16, 3);
        rows("line A B C by 3 of 7 999 1 1 2 40", "line A B C by 3", "line A B C given", "line A B C by 5 of 4");
        int[] of = {7, 999, 1, 1, 2, 40};
        for (int i = 0; i < 6; i++) due("because(1, " + i + ")", x.because(1, i), of[i]);
        due("because(4, 0)", x.because(4, 0), 4);
        due("because(4, 1)", x.because(4, 1), UNKNOWN);
        due("because(2, 0)", x.because(2, 0), UNKNOWN);
        due("because(3, 0)", x.because(3, 0), UNKNOWN);
        for (int bad : new int[] {LEAST, -1, 6, MOST}) due("i " + bad, x.because(1, bad), UNKNOWN);
        goalIs("line A B C");
        for (int bad : new int[] {LEAST, -1, 0, 5, MOST}) due("row " + bad, x.because(bad, 0), UNKNOWN);
    }

    private void alike() {
        begin(17, 5);
        rows("line A B C", "par A B C D", "mid A B C", "circ A B C D", "btw A B C", "eq A B A C");
        due("no goal", x.alike(0, COL, 0, 1, 2, 0), UNKNOWN);
        due("COL", x.alike(1, COL, 2, 0, 1, -5), 1);
        due("COL of others", x.alike(1, COL, 2, 0, 3, 0), 0);
        due("another kind", x.alike(1, MID, 0, 1, 2, 0), 0);
        int[][] turns = {{0, 1, 2, 3}, {1, 0, 2, 3}, {1, 0, 3, 2}, {2, 3, 0, 1}, {3, 2, 0, 1}, {3, 2, 1, 0}, {2, 3, 1, 0}, {0, 1, 3, 2}};
        for (int[] t : turns) due("PAR", x.alike(2, PAR, t[0], t[1], t[2], t[3]), 1);
        due("PAR over cross", x.alike(2, PAR, 0, 2, 1, 3), 0);
        due("PERP", x.alike(2, PERP, 0, 1, 2, 3), 0);
        due("MID turned", x.alike(3, MID, 0, 2, 1, 9), 1);
        due("MID of another", x.alike(3, MID, 1, 0, 2, 0), 0);
        due("CIRC", x.alike(4, CIRC, 3, 1, 0, 2), 1);
        due("CIRC of others", x.alike(4, CIRC, 4, 1, 0, 2), 0);
        due("BTW turned", x.alike(5, BTW, 0, 2, 1, 9), 1);
        due("BTW as MID", x.alike(5, MID, 0, 2, 1, 9), 0);
        due("EQ", x.alike(6, EQ, 2, 0, 1, 0), 1);
        goalIs("eq D E B A");
        due("the goal", x.alike(0, EQ, 0, 1, 3, 4), 1);
        due("not the goal", x.alike(0, EQ, 0, 1, 2, 4), 0);
        for (int bad : new int[] {LEAST, -1, 7, MOST}) {
            due("row " + bad, x.alike(bad, COL, 0, 1, 2, 0), UNKNOWN);
            due("unknown first", x.alike(bad, bad, 0, 1, 2, 0), UNKNOWN);
            due("kind " + bad, x.alike(1, bad, 0, 1, 2, 0), OUTSIDE);
            due("point " + bad, x.alike(1, COL, 0, 1, bad, 0), OUTSIDE);
            due("fourth point " + bad, x.alike(2, PAR, 0, 1, 2, bad), OUTSIDE);
        }
        due("no fact", x.alike(1, COL, 0, 1, 1, 0), OUTSIDE);
        due("a point that there is not", x.alike(1, COL, 0, 1, 5, 0), OUTSIDE);
    }

    private void grade() {
        begin(18, 4);
        due("no rows", x.grade(), 0);
        rows("mid A B C given", "eq A B A C by 3 of 1", "line A B C");
        due("all are right", x.grade(), 0);
        rows("perp A B C D", "line D A B", "btw A C B by 4 of 1");
        due("row 4 is not", x.grade(), 4);
        due("again", x.grade(), 4);
        rows("line A B C by 5 of 7");
        due("a circle behind it", x.grade(), 4);
        for (int i = 0; i < 4; i++) x.back();
        due("all are right", x.grade(), 0);
        begin(18, 3);
        rows("line A B C by 5 of 2", "btw A B C by 4 of 3", "mid A B C given");
        due("not in the order of numbers", x.grade(), 0);
    }

    private void gradingIsSpent() {
        begin(19, 3);
        rows("mid A B C given", "btw A B C");
        due("before", x.verdict(1), STATE);
        x.grade();
        due("after", x.verdict(2), 1);
        goalIs("eq A B A C");
        x.language(1);
        Typist.word(x, 0, 0, "zz");
        x.wipe();
        due("goal, language, word leave it", x.verdict(2), 1);
        due("the goal at hand", x.hint(0), 1);
        due("the marks of the goal at hand", x.marks(1), 7);
        due("a faulty row", row("line A B"), -108);
        due("a faulty place", x.place(0, 0, 0, 0), UNKNOWN);
        due("refused points", x.points(3), STATE);
        due("refused calls leave it", x.verdict(2), 1);
        int figure = x.figure();
        askAllForState("figure()");
        x.grade();
        x.place(figure, 0, 1, 1);
        askAllForState("place()");
        x.grade();
        x.back();
        askAllForState("back()");
        x.grade();
        rows("btw A B C");
        askAllForState("row()");
        begin(19, 2);
        x.grade();
        due("without rows", x.reached(0), 0);
        x.points(3);
        due("points()", x.reached(0), STATE);
        due("points()", x.marks(0), STATE);
    }

    private void askAllForState(String after) {
        due("verdict after " + after, x.verdict(1), STATE);
        due("way after " + after, x.way(1), STATE);
        due("gap after " + after, x.gap(1), STATE);
        due("counter after " + after, x.counter(1), STATE);
        due("order after " + after, x.order(1), STATE);
        due("circle after " + after, x.circle(0), STATE);
        due("circle(-1) after " + after, x.circle(-1), STATE);
        due("marks after " + after, x.marks(1), STATE);
        due("hint after " + after, x.hint(0), STATE);
        due("hint(1) after " + after, x.hint(1), STATE);
        due("level after " + after, x.level(COL, 0, 1, 2, 0), STATE);
        due("reached after " + after, x.reached(0), STATE);
        for (int what = 5; what < 8; what++) due("told after " + after, x.told(what), 0);
        due("UNKNOWN first", x.verdict(9), UNKNOWN);
        due("UNKNOWN first", x.order(0), UNKNOWN);
        due("OUTSIDE first", x.marks(2), OUTSIDE);
        due("OUTSIDE first", x.hint(6), OUTSIDE);
        due("OUTSIDE first", x.level(COL, 0, 1, 1, 0), OUTSIDE);
        due("OUTSIDE first", x.reached(6), OUTSIDE);
    }

    private void verdict() {
        begin(19, 4);
        x.figure();
        draw(0, 0, 0, 2, 0, 1, 0, 1, 5);
        rows("mid C A B given", "eq C A C B", "perp A B C D", "eq A B C D", "line A B D by 5 of 5");
        x.grade();
        int[] want = {1, 1, 2, 0, 0};
        for (int i = 0; i < 5; i++) due("verdict(" + (i + 1) + ")", x.verdict(i + 1), want[i]);
        for (int bad : new int[] {LEAST, -1, 0, 6, 41, MOST}) due("verdict " + bad, x.verdict(bad), UNKNOWN);
        x.place(0, 2, 1, 1);
        x.grade();
        due("a given row that fails is right", x.verdict(1), 1);
        due("no good figure refutes it", x.verdict(4), 2);
        due("circular is wrong", x.verdict(5), 0);
    }

    private void way() {
        begin(20, 5);
        rows("mid C A B given", "mid C B A given", "mid C A B by 15", "btw C A B seen", "btw D A B seen", "line A B C seen", "eq C A C B by 3 of 1",
            "eq C A C B by 3 of 1 2", "line A C B by 9 of 1", "perp A B C D by 3 of 99", "perp D E A B by 2 of 10 10");
        x.grade();
        int[] without = {1, 1, 2, 5, 0, 5, 4, 2, 2, 0, 0};
        for (int i = 0; i < without.length; i++) due("way(" + (i + 1) + ") without figures", x.way(i + 1), without[i]);
        x.figure();
        draw(0, 0, 0, 8, 0, 4, 0, 6, 0, 1, 1);
        x.figure();
        x.grade();
        int[] with = {1, 1, 2, 3, 3, 5, 4, 2, 2, 0, 0};
        for (int i = 0; i < with.length; i++) due("way(" + (i + 1) + ") with a figure", x.way(i + 1), with[i]);
        draw(1, 0, 0, 8, 0, 4, 0, 9, 0, 1, 1);
        x.grade();
        due("seen in both", x.way(4), 3);
        due("not in the second", x.way(5), 0);
        due("it refutes it", x.counter(5), 1);
        for (int bad : new int[] {LEAST, -1, 0, 12, 41, MOST}) due("way " + bad, x.way(bad), UNKNOWN);
        begin(20, 4);
        rows("par A B C D by 0 of 2 3", "perp A B A C", "par A C C D given", "perp C D A B by 2 of 3 4", "perp A B A C given");
        x.grade();
        due("rows of that are not right", x.way(1), 0);
        due("an open row", x.way(2), 0);
        due("a later row", x.order(5), 4);
        due("by later rows", x.way(4), 0);
        begin(20, 4);
        rows("perp C D A B by 2 of 3 2", "par A C C D given", "perp A B A C given", "perp A B A C");
        x.grade();
        due("by later rows", x.way(1), 4);
        due("its order", x.order(1), 3);
        due("again", x.way(4), 2);
    }

    /** All six rows OF count, and no former row's. */
    private void wayBySixRows() {
        begin(20, 4);
        rows("line A B D given", "perp A B C D given", "perp A C B D given", "eq A B C D given", "eq A C B D given", "btw A B C given",
            "line A B C by 5 of 1 2 3 4 5 6", "line A B C by 5 of 6 5 4 3 2 1");
        x.grade();
        due("by the last of six", x.way(7), 4);
        due("again", x.way(8), 2);
        begin(20, 4);
        rows("btw A B C given", "line A B D by 5 of 1", "line A C B by 5 of 2", "line A B C by 5 of 3 2 1");
        x.grade();
        due("by no row at all", x.way(2), 0);
        due("not by the row of another", x.way(3), 5);
        due("again", x.way(4), 2);
    }

    /** A row that was right and is circular now. */
    private void rightNoMore() {
        begin(20, 3);
        x.figure();
        draw(0, 0, 0, 1, 0, 2, 0);
        rows("btw B A C given", "line A B C by 8 of 4", "eq B A B C by 3 of 4");
        x.grade();
        due("way", x.way(2), 5);
        due("gap", x.gap(2), 1);
        due("marks", x.marks(0), 1);
        due("order", x.order(3), 3);
        due("verdict", x.verdict(3), 2);
        x.place(0, 1, 1, 1);
        x.grade();
        due("no good figure", x.counter(3), NONE);
        x.place(0, 1, 0, 0);
        draw(0, 0, 0, 1, 0, 3, 0);
        x.grade();
        due("a counter", x.counter(3), 0);
        rows("line A B C by 5 of 2");
        x.grade();
        for (int row = 2; row <= 4; row++) {
            due("verdict", x.verdict(row), 0);
            due("way", x.way(row), 0);
            due("gap", x.gap(row), 0);
            due("counter", x.counter(row), NONE);
            due("order", x.order(row), NONE);
        }
        due("marks", x.marks(0), 0);
        due("right ones", x.told(5), 1);
        due("circular ones", x.told(6), 3);
        due("circle", x.circle(0), 2);
        due("circle", x.circle(1), 4);
    }

    /** By each rule its own fact follows, and neither by the next one nor from fewer rows. */
    private void waysOfRules() {
        String[][] rules = {
            {"par A B C D", "par C D E F", "par A B E F"},
            {"perp A B C D", "perp C D E F", "par A B E F"},
            {"perp A B C D", "par C D E F", "perp A B E F"},
            {"mid A B C", "eq A B A C"},
            {"mid A B C", "btw A B C"},
            {"btw A B C", "line A B C"},
            {"mid D A B", "mid E A C", "par D E B C"},
            {"eq A B C D", "eq C D E F", "eq A B E F"},
            {"par A B A C", "line A B C"},
            {"line A B C", "line A B D", "line A C D"},
            {"eq A C B C", "eq A D B D", "perp A B C D"},
            {"mid C A B", "perp C D A B", "eq D A D B"},
            {"eq E A E B", "eq E B E C", "eq E C E D", "circ A B C D"},
            {"circ A B C D", "circ A B C E", "circ A B D E"},
            {"line A B C", "par A B D E", "par A C D E"},
            {"line A B C", "eq A B A C", "mid A B C"},
            {"perp A B C D", "line A B E", "perp A E C D"},
        };
        for (int rule = 0; rule < rules.length; rule++) {
            String[] told = rules[rule];
            int last = told.length - 1;
            begin(20, 7);
            StringBuilder of = new StringBuilder();
            for (int i = 0; i < last; i++) {
                rows(told[i] + " given");
                of.insert(0, " " + (i + 1));
            }
            rows(told[last] + " by " + rule + " of" + of);
            x.grade();
            due("rule " + rule, x.way(last + 1), 4);
            x.back();
            rows(told[last] + " by " + (rule + 5) % 17 + " of" + of);
            x.grade();
            due("not by another rule, rule " + rule, x.way(last + 1), 5);
            due("it is a gap", x.gap(last + 1), 1);
            x.back();
            rows(told[last] + " by " + rule + (last > 1 ? " of 1" : " of 9"));
            x.grade();
            due("not from fewer rows, rule " + rule, x.way(last + 1), 5);
            x.back();
            rows(told[last] + " by " + rule);
            x.grade();
            due("not from none, rule " + rule, x.way(last + 1), 5);
            if (last < 2) continue;
            begin(20, 7);
            rows(told[0] + " given", told[last] + " by " + rule + " of 1");
            x.grade();
            due("open with less, rule " + rule, x.way(2), 0);
            due("open", x.verdict(2), 2);
        }
    }

    private void lettersMayBeTheSame() {
        begin(20, 4);
        rows("par A B B C given", "par B C A C given", "par A B A C by 0 of 1 2");
        x.grade();
        due("pairs that share points", x.way(3), 4);
        begin(20, 4);
        rows("perp A B A C given", "perp A C A D given", "par A B A D by 1 of 1 2", "line B A D by 8 of 3");
        x.grade();
        due("PERP about one point", x.way(3), 4);
        due("on to a line", x.way(4), 4);
        begin(20, 3);
        rows("eq A B A C given", "eq A B B C given", "perp A B C A by 10 of 1 2", "eq A C B C by 7 of 1 2");
        x.grade();
        due("no figure of it", x.way(3), 0);
        due("EQ round", x.way(4), 4);
        begin(20, 4);
        rows("par A B C D given");
        due("a pair with itself is no fact", row("par A B A B by 0 of 1"), -100);
    }

    private void gap() {
        begin(21, 4);
        rows("mid A B C given", "btw A B C", "eq A B A C by 3 of 1", "mid A C B", "perp A B C D");
        x.grade();
        int[] want = {0, 1, 0, 0, 0};
        for (int i = 0; i < 5; i++) due("gap(" + (i + 1) + ")", x.gap(i + 1), want[i]);
        begin(21, 4);
        rows("mid A B C given", "line A B C seen", "line A B D given", "line A C D", "line B C D by 9 of 9");
        x.grade();
        due("two steps", x.gap(2), 2);
        due("way", x.way(2), 5);
        due("one step", x.gap(4), 1);
        due("one step", x.gap(5), 1);
        begin(21, 5);
        rows("mid A B C given", "line A B D given", "line A C D");
        x.grade();
        due("three steps are too many", x.gap(3), 0);
        due("way", x.way(3), 0);
        due("verdict", x.verdict(3), 2);
        due("level", x.level(COL, 0, 2, 3, 0), 3);
        for (int bad : new int[] {LEAST, -1, 0, 4, 41, MOST}) due("gap " + bad, x.gap(bad), UNKNOWN);
    }

    private void counter() {
        begin(22, 3);
        x.figure();
        x.figure();
        x.figure();
        draw(0, 0, 0, 4, 0, 2, 1);
        draw(1, 0, 0, 4, 0, 1, 0);
        draw(2, 0, 0, 6, 0, 2, 0);
        rows("line A B C given", "eq A C B C", "btw C A B seen", "btw A B C seen", "mid C A B by 5 of 5", "line B A C");
        x.grade();
        int[] want = {NONE, 1, NONE, 1, NONE, NONE};
        for (int i = 0; i < 6; i++) due("counter(" + (i + 1) + ")", x.counter(i + 1), want[i]);
        x.place(1, 2, 2, 0);
        x.grade();
        due("the next figure", x.counter(2), 2);
        x.place(2, 2, 3, 0);
        x.grade();
        due("none any more", x.counter(2), NONE);
        due("so it is open", x.verdict(2), 2);
        for (int bad : new int[] {LEAST, -1, 0, 7, 41, MOST}) due("counter " + bad, x.counter(bad), UNKNOWN);
    }

    private void circle() {
        begin(23, 3);
        rows("line A B C by 5 of 4", "line A B C given", "line A B C by 5 of 2 50 5 4", "line A B C by 5 of 2 3", "line A B C by 5 of 6 3",
            "line A B C by 5 of 6", "line A B C by 5 of 1");
        due("grade()", x.grade(), 1);
        due("circular ones", x.told(6), 6);
        // From 1 by 4 and 3 to 5, from there to 6, and that is a reason of itself.
        due("circle(0)", x.circle(0), 6);
        due("circle(1)", x.circle(1), NONE);
        x.back();
        x.back();
        rows("line A B C given");
        x.grade();
        // From 1 by 4 to 3, which is the first one that comes twice: 1 and 4 are no part of it.
        due("round by 3, 5", x.circle(0), 3);
        due("round by 3, 5", x.circle(1), 5);
        for (int bad : new int[] {LEAST, -1, 2, 40, MOST}) due("circle " + bad, x.circle(bad), NONE);
        begin(23, 3);
        x.grade();
        due("no rows", x.circle(0), NONE);
        rows("line A B C by 5 of 1");
        x.grade();
        due("of itself", x.circle(0), 1);
        due("of itself, once", x.circle(1), NONE);
        begin(23, 3);
        for (int i = 1; i <= 40; i++) rows("line A B C by 5 of " + (i % 40 + 1));
        x.grade();
        for (int i = 0; i < 40; i++) due("the longest", x.circle(i), i + 1);
        due("the longest ends", x.circle(40), NONE);
    }

    private void order() {
        begin(24, 3);
        rows("line A B C by 5 of 3", "line A B C", "line A B C by 5 of 5 41", "line A B C by 5 of 4", "line A B C given", "line A B C by 5 of 4");
        x.grade();
        int[] want = {4, 1, 3, NONE, 2, NONE};
        for (int i = 0; i < 6; i++) due("order(" + (i + 1) + ")", x.order(i + 1), want[i]);
        due("asked in this order", x.way(1), 2);
        due("ahead of the given one", x.verdict(2), 2);
        for (int bad : new int[] {LEAST, -1, 0, 7, 41, MOST}) due("order " + bad, x.order(bad), UNKNOWN);
    }

    private void marks() {
        begin(25, 3);
        x.grade();
        due("got nothing", x.marks(0), 0);
        due("at most nothing", x.marks(1), 0);
        x.figure();
        draw(0, 1, 0, 0, 0, 2, 0);
        rows("mid A B C given", "eq A B A C by 3 of 1", "btw A B C seen", "line A B C", "mid A C B", "line A B C by 5 of 6");
        x.grade();
        due("got", x.marks(0), 4);
        due("at most", x.marks(1), 10);
        goalIs("line C B A");
        due("the last row is not right", x.marks(0), 4);
        due("at most with a goal", x.marks(1), 15);
        x.back();
        x.grade();
        due("the last row is not the goal", x.marks(0), 4);
        x.back();
        x.grade();
        due("the last row is the goal", x.marks(0), 9);
        due("at most", x.marks(1), 11);
        goalIs("mid A B C");
        due("not any more", x.marks(0), 4);
        for (int bad : new int[] {LEAST, -1, 2, MOST}) due("side " + bad, x.marks(bad), OUTSIDE);
        begin(25, 3);
        rows("line A B C by 5 of 2", "btw A B C given");
        x.grade();
        due("the first row counts", x.marks(0), 2);
        goalIs("btw A B C");
        due("a given row may be the goal", x.marks(0), 7);
        due("at most", x.marks(1), 7);
    }

    private void hint() {
        begin(26, 5);
        rows("mid A B C given");
        x.grade();
        for (int what = 0; what < 6; what++) due("hint(" + what + ") without a goal", x.hint(what), NONE);
        goalIs("line C B A");
        int[] want = {2, BTW, 0, 1, 2, NONE};
        for (int what = 0; what < 6; what++) due("hint(" + what + ")", x.hint(what), want[what]);
        goalIs("eq A B A C");
        int[] near = {1, EQ, 0, 1, 0, 2};
        for (int what = 0; what < 6; what++) due("hint(" + what + ") one step", x.hint(what), near[what]);
        goalIs("mid A C B");
        for (int what = 0; what < 6; what++) due("hint(" + what + ") at the goal", x.hint(what), what == 0 ? 0 : NONE);
        goalIs("perp A B C D");
        for (int what = 0; what < 6; what++) due("hint(" + what + ") too far", x.hint(what), NONE);
        for (int bad : new int[] {LEAST, -1, 6, MOST}) due("what " + bad, x.hint(bad), OUTSIDE);
    }

    private void hintByTheLeast() {
        // EQ A B E F by rule 7 through CD, or through AC: the lesser letters win.
        begin(26, 6);
        rows("mid A B C given", "eq A C E F given", "eq A B C D given", "eq C D D E given", "eq D E E F given");
        x.grade();
        goalIs("eq A B E F");
        due("level", x.hint(0), 2);
        due("kind", x.hint(1), EQ);
        due("by AC: A", x.hint(2), 0);
        due("by AC: B", x.hint(3), 1);
        due("by AC: A", x.hint(4), 0);
        due("by AC: C", x.hint(5), 2);
        // Six levels away is too far, five is not.
        begin(26, 7);
        rows("mid A B C given", "line A B D given", "line A B E given", "par A B F G given");
        x.grade();
        goalIs("par A C F G");
        due("level", x.hint(0), x.level(PAR, 0, 2, 5, 6));
        due("level", x.hint(0), 3);
        due("towards COL A B C", x.hint(1), BTW);
        goalIs("line C D E");
        due("level", x.hint(0), x.level(COL, 2, 3, 4, 0));
    }

    private void level() {
        begin(27, 4);
        rows("mid A B C given", "line A B D given", "perp A B C D");
        x.grade();
        due("level 0", x.level(MID, 0, 2, 1, 77), 0);
        due("level 1", x.level(BTW, 0, 1, 2, -1), 1);
        due("level 2", x.level(COL, 2, 1, 0, 0), 2);
        due("level 3", x.level(COL, 2, 3, 0, 0), 3);
        due("none", x.level(EQ, 0, 1, 2, 3), NONE);
        due("rows that are open do not count", x.level(PERP, 0, 1, 2, 3), NONE);
        for (int bad : new int[] {LEAST, -1, 7, MOST}) {
            due("kind " + bad, x.level(bad, 0, 1, 2, 3), OUTSIDE);
            due("point " + bad, x.level(COL, 0, bad, 2, 3), OUTSIDE);
        }
        due("no fact", x.level(PAR, 0, 1, 1, 0), OUTSIDE);
        begin(27, 7);
        rows("par A B A C given", "par A C A D given", "par A D A E given", "par A E A F given", "par A F A G given", "mid G A F given");
        x.grade();
        due("level 5 at most", x.level(PAR, 0, 1, 0, 6), 3);
    }

    private void reached() {
        begin(28, 3);
        rows("mid A B C given", "mid A C B given", "mid A B C");
        x.grade();
        int[] want = {1, 2, 1, 0, 0, 0};
        for (int n = 0; n < 6; n++) due("reached(" + n + ")", x.reached(n), want[n]);
        for (int bad : new int[] {LEAST, -1, 6, MOST}) due("reached " + bad, x.reached(bad), OUTSIDE);
        begin(28, 2);
        x.grade();
        for (int n = 0; n < 6; n++) due("reached(" + n + ") of nothing", x.reached(n), 0);
        // All of a kind: from two lines with two points in common the other two.
        begin(28, 4);
        rows("line A B C given", "line A B D given");
        x.grade();
        due("reached(0)", x.reached(0), 2);
        due("reached(1)", x.reached(1), 2);
        due("reached(2)", x.reached(2), 0);
    }

    private void told() {
        begin(29, 3);
        x.figure();
        draw(0, 1, 0, 0, 0, 2, 0);
        rows("mid A B C given", "btw A C B seen", "line A B C by 5 of 3", "eq A B A C");
        Typist.type(x, "abc");
        int[] before = {3, 1, 4, 3, 0, 0, 0, 0};
        for (int what = 0; what < 8; what++) due("told(" + what + ")", x.told(what), before[what]);
        goalIsTyped();
        x.grade();
        int[] after = {3, 1, 4, 0, 1, 3, 1, 1};
        for (int what = 0; what < 8; what++) due("told(" + what + ") graded", x.told(what), after[what]);
        for (int bad : new int[] {LEAST, -1, 8, MOST}) due("told " + bad, x.told(bad), OUTSIDE);
    }

    private void goalIsTyped() {
        due("wipe()", x.wipe(), 3);
        goalIs("line A B C");
    }
}
