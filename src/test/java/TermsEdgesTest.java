/** The edges that the document's section "Terms" names, sentence by sentence. */
public final class TermsEdgesTest {
    private static final int UNKNOWN = Desk.UNKNOWN, OUTSIDE = Desk.OUTSIDE, STATE = Desk.STATE, FULL = Desk.FULL, NONE = Desk.NONE;
    private static final int COL = 0, PAR = 1, PERP = 2, EQ = 3, MID = 4, CIRC = 5, BTW = 6;
    private static final String[] WORDS = {"line", "par", "perp", "eq", "mid", "circ", "btw"};

    private static final Desk DESK = new Desk("TermsEdgesTest");

    public static void main(String[] args) {
        anObjectHas512Calls();
        gradedAgainAndAgain();
        ofSeveralTheFirst();
        pointsAreTwoToSeven();
        unlikePointsMakeFacts();
        normalIsTheLeastRow();
        figuresAreSix();
        placesReachToAThousand();
        aPointMayHaveNoPlace();
        holdsByExactNumbers();
        circlesAreExact();
        goodFigures();
        lettersStandForAnyPoints();
        levelsEndAtFive();
        factsOfLesserLevelsHaveThese();
        theTapeHas120Bytes();
        onlyByte32IsBlank();
        wordsHaveOneToEightLetters();
        pointsAreOneLetter();
        numbersHaveOneToThreeDigits();
        rulesAreZeroTo16();
        rowsOfAreOneTo999();
        rowsOfAreOneToSix();
        rowsHaveOneReasonAtMost();
        theFirstFaultFromTheLeft();
        pointsThatMakeNoFact();
        theLengthWhereOneMoreIsWanted();
        languagesAreTwo();
        rowsAreForty();
        rowsThatThereAreNot();
        againIsAskedFirst();
        seenNeedsAGoodFigure();
        byNeedsRightRows();
        foundIsOneOrTwo();
        givenIsRightWhateverItSays();
        theCounterIsTheFirstFigure();
        circularRows();
        gradedAnew();
        theCircle();
        theMarks();
        theHint();
        DESK.end();
    }

    private static String letter(int p) {
        return String.valueOf((char) ('A' + p));
    }

    private static String call(String name, int... arguments) {
        StringBuilder text = new StringBuilder(name);
        for (int i = 0; i < arguments.length; i++) text.append(i == 0 ? "(" : ", ").append(arguments[i]);
        return text.append(")").toString();
    }

    private static void anObjectHas512Calls() {
        DESK.begin("at most 512 calls", 7);
        DESK.rows("mid A B C given");
        DESK.goal("line A B C", 1);
        while (DESK.calls() < 500) DESK.ask("told(0)", 7);
        DESK.ask("grade()", 0);
        for (int i = 0; i < 5; i++) DESK.ask("reached(1)", 2);
        DESK.ask("feed(-1, 8)", 8);
        DESK.ask("wipe()", 8);
        DESK.ask("back()", 0);
        DESK.ask("figure()", 0);
        DESK.ask("fact(0, 0)", COL);
        DESK.ask("hint(0)", STATE);
        DESK.due("calls", DESK.calls(), 512);
    }

    /** Graded again and again, each time with many FACTS to be found; the last time is as the first one. */
    private static void gradedAgainAndAgain() {
        String[] rows = {"par A B A C given", "par A B A D given", "par A B A E given", "par A B A F given", "par A B A G given", "perp A B C D"};
        int[] first = new int[6];
        DESK.begin("at most 512 calls, graded once", 7);
        DESK.rows(rows);
        DESK.ask("grade()", 6);
        for (int n = 0; n < 6; n++) first[n] = DESK.call("reached(" + n + ")");
        DESK.due("FACTS of LEVEL 0", first[0], 5);
        DESK.begin("at most 512 calls, graded again and again", 7);
        DESK.rows(rows);
        DESK.ask("figure()", 0);
        while (DESK.calls() < 500) {
            DESK.ask("place(0, 0, 0, 0)", 1);
            DESK.ask("grade()", 6);
        }
        DESK.askFrom(0, "reached(#)", first);
    }

    private static void ofSeveralTheFirst() {
        DESK.begin("of several the first", 3);
        DESK.ask("figure()", 0);
        DESK.ask("place(1, 0, 1001, 0)", UNKNOWN);
        DESK.ask("place(0, 3, 0, -1001)", UNKNOWN);
        DESK.ask("placed(1, 0, 2)", -2001);
        DESK.ask("placed(0, 3, 2)", -2001);
        DESK.ask("placed(0, 0, 2)", -2002);
        DESK.ask("placed(0, 0, 1)", -2003);
        DESK.ask("holds(1, 7, 0, 0, 0, 0)", UNKNOWN);
        DESK.ask("points(8)", OUTSIDE);
        DESK.ask("points(7)", STATE);
        DESK.ask("fact(1, 8)", UNKNOWN);
        DESK.ask("fact(0, 8)", UNKNOWN);
        DESK.ask("alike(1, 7, 0, 0, 0, 0)", UNKNOWN);
        DESK.ask("alike(0, 7, 0, 0, 0, 0)", UNKNOWN);
        for (String call : new String[] {"verdict", "way", "gap", "counter", "order"}) {
            DESK.ask(call + "(1)", UNKNOWN);
            DESK.ask(call + "(0)", UNKNOWN);
        }
        DESK.ask("marks(2)", OUTSIDE);
        DESK.ask("hint(6)", OUTSIDE);
        DESK.ask("level(7, 0, 1, 2, 3)", OUTSIDE);
        DESK.ask("reached(6)", OUTSIDE);
        DESK.ask("marks(1)", STATE);
        DESK.ask("hint(5)", STATE);
        DESK.ask("level(0, 0, 1, 2, 3)", STATE);
        DESK.ask("reached(5)", STATE);
        DESK.type("A");
        DESK.ask("word(2, 11)", UNKNOWN);
        DESK.ask("word(1, 11)", OUTSIDE);
        DESK.ask("word(1, 10)", -100);
        DESK.word(1, 10, "line A", -105);
        DESK.word(1, 10, "line", STATE);
        for (int i = 1; i <= 15; i++) DESK.ask("feed(0, 8)", 8 * i);
        DESK.ask("feed(0, 9)", OUTSIDE);
        DESK.ask("feed(0, 1)", FULL);
        DESK.begin("of several the first: a TEXT without POINTS");
        DESK.type("x");
        DESK.ask("row()", STATE);
        DESK.ask("goal()", STATE);
    }

    private static void pointsAreTwoToSeven() {
        for (int n = 2; n <= 7; n++) {
            DESK.begin("POINTS are A .. G, as many as told (2 to 7)", n);
            DESK.ask("told(0)", n);
            String last = letter(n - 1);
            String next = letter(n);
            DESK.refuse("line A B #" + next, "line A #" + next + " B", "line #" + next + " A B", "par A B A #" + next);
            DESK.ask("figure()", 0);
            DESK.ask(call("place", 0, n - 1, 0, 0), 1);
            DESK.ask(call("place", 0, n, 0, 0), UNKNOWN);
            DESK.ask(call("placed", 0, n, 0), -2001);
            DESK.ask(call("holds", 0, COL, 0, 1, n, 0), OUTSIDE);
            DESK.ask(call("holds", 0, CIRC, 0, 1, 2, n), OUTSIDE);
            if (n == 2) continue;
            DESK.rows("line A B " + last);
            DESK.ask("fact(1, 3)", n - 1);
            DESK.ask(call("holds", 0, COL, 0, 1, n - 1, 0), 0);
            DESK.ask(call("alike", 1, COL, 0, 1, n - 1, 0), 1);
            DESK.ask(call("alike", 1, COL, 0, 1, n, 0), OUTSIDE);
            DESK.ask("grade()", 1);
            DESK.ask(call("level", COL, 0, 1, n - 1, 0), NONE);
            DESK.ask(call("level", COL, 0, 1, n, 0), OUTSIDE);
        }
        DESK.begin("of two POINTS there are no FACTS", 2);
        DESK.refuse("#par A B A B", "#perp A B B A", "#eq B A A B", "line A B#", "#mid A B A", "#btw A B B", "#circ A B A B");
        DESK.goal("eq A B A B", -100);
        DESK.ask("grade()", 0);
        for (int kind = 0; kind < 7; kind++) DESK.ask(call("level", kind, 0, 1, 1, 0), OUTSIDE);
        for (int n = 0; n < 6; n++) DESK.ask(call("reached", n), 0);
    }

    /** As the document tells it: three unlike, four unlike, or a unlike b, c unlike d, and the pairs, however turned. */
    private static boolean isFact(int kind, int a, int b, int c, int d) {
        boolean three = a != b && b != c && a != c;
        if (kind == COL || kind == MID || kind == BTW) return three;
        if (kind == CIRC) return three && a != d && b != d && c != d;
        boolean samePair = a == c && b == d || a == d && b == c;
        return a != b && c != d && !samePair;
    }

    private static void unlikePointsMakeFacts() {
        for (int kind = 0; kind < 7; kind++) {
            boolean three = kind == COL || kind == MID || kind == BTW;
            for (int i = 0; i < 256; i++) {
                int a = i / 64;
                int b = i / 16 % 4;
                int c = i / 4 % 4;
                int d = i % 4;
                if (i % 32 == 0) {
                    DESK.begin("what is not so is no FACT", 4);
                    DESK.ask("figure()", 0);
                    DESK.goal("line A B C", 1);
                    DESK.ask("grade()", 0);
                }
                boolean fact = isFact(kind, a, b, c, d);
                DESK.due("holds", DESK.call(call("holds", 0, kind, a, b, c, d)), fact ? 0 : OUTSIDE);
                DESK.due("level", DESK.call(call("level", kind, a, b, c, d)), fact ? NONE : OUTSIDE);
                int alike = DESK.call(call("alike", 0, kind, a, b, c, d));
                DESK.due("alike", alike < 0 ? alike : 0, fact ? 0 : OUTSIDE);
                String text = WORDS[kind] + " " + letter(a) + " " + letter(b) + " " + letter(c) + (three ? "" : " " + letter(d));
                DESK.goal(text, fact ? 1 : -100);
            }
        }
    }

    private static void normalIsTheLeastRow() {
        String[] texts = {
            "line G F A", "par G F B A", "perp C B C A", "eq G A F A", "mid G F A", "circ G A F B", "btw B G A",
            "par B D A E", "eq A G A B", "perp B C A G", "par C G A B", "eq F G A B",
        };
        int[][] wants = {
            {COL, 0, 5, 6, NONE}, {PAR, 0, 1, 5, 6}, {PERP, 0, 2, 1, 2}, {EQ, 0, 5, 0, 6}, {MID, 6, 0, 5, NONE}, {CIRC, 0, 1, 5, 6},
            {BTW, 1, 0, 6, NONE}, {PAR, 0, 4, 1, 3}, {EQ, 0, 1, 0, 6}, {PERP, 0, 6, 1, 2}, {PAR, 0, 1, 2, 6}, {EQ, 0, 1, 5, 6},
        };
        DESK.begin("NORMAL: the least row of POINTS, the first one counts most", 7);
        for (int i = 0; i < texts.length; i++) {
            DESK.goal(texts[i], 1);
            DESK.askFrom(0, "fact(0, #)", wants[i]);
        }
    }

    private static void figuresAreSix() {
        DESK.begin("FIGURES 0 .. 5, as they are made", 2);
        DESK.ask("good(0)", UNKNOWN);
        for (int i = 0; i < 6; i++) {
            DESK.ask(call("good", i), UNKNOWN);
            DESK.ask(call("place", i, 0, 0, 0), UNKNOWN);
            DESK.ask("figure()", i);
            DESK.ask(call("good", i), 0);
            DESK.ask(call("place", i, 0, i, -i), 1);
        }
        DESK.ask("figure()", FULL);
        DESK.ask("good(6)", UNKNOWN);
        DESK.ask("place(6, 0, 0, 0)", UNKNOWN);
        for (int i = 0; i < 6; i++) {
            DESK.ask(call("placed", i, 0, 0), i);
            DESK.ask(call("placed", i, 0, 1), -i);
        }
    }

    private static void placesReachToAThousand() {
        DESK.begin("x and y from -1000 to 1000 each", 2);
        DESK.ask("figure()", 0);
        int[] inside = {-1000, -999, -5, -3, -1, 0, 1, 999, 1000};
        for (int v : inside) {
            DESK.ask(call("place", 0, 1, v, -v), 1);
            DESK.ask("placed(0, 1, 0)", v);
            DESK.ask("placed(0, 1, 1)", -v);
        }
        for (String v : new String[] {"-1001", "1001", "-2001", "MIN", "MAX"}) {
            DESK.ask("place(0, 1, " + v + ", 0)", OUTSIDE);
            DESK.ask("place(0, 1, 0, " + v + ")", OUTSIDE);
        }
        DESK.ask("placed(0, 1, 0)", 1000);
        DESK.ask("placed(0, 1, 1)", -1000);
    }

    private static void aPointMayHaveNoPlace() {
        DESK.begin("a POINT may have none", 4);
        DESK.ask("figure()", 0);
        DESK.ask("holds(0, 0, 0, 1, 2, 0)", 0);
        DESK.ask("placed(0, 3, 0)", -2003);
        DESK.draw(0, -1, 0, 1, 0, 0, 0);
        DESK.ask("holds(0, 0, 0, 1, 2, 3)", 1);
        DESK.ask("holds(0, 6, 2, 0, 1, 3)", 1);
        DESK.ask("holds(0, 1, 0, 1, 2, 3)", 0);
        DESK.ask("holds(0, 2, 0, 3, 1, 2)", 0);
        DESK.ask("holds(0, 3, 3, 0, 1, 2)", 0);
        DESK.ask("holds(0, 4, 3, 0, 1, 2)", 0);
        DESK.ask("holds(0, 6, 3, 0, 1, 2)", 0);
        DESK.ask("good(0)", 0);
        DESK.ask("place(0, 3, 0, 1)", 1);
        DESK.ask("good(0)", 1);
    }

    private static void holdsByExactNumbers() {
        DESK.begin("A FACT HOLDS in a FIGURE, with exact numbers", 4);
        DESK.ask("figure()", 0);
        DESK.draw(0, -1000, -1000, 1000, 999, 0, 0, 998, 998);
        DESK.ask("holds(0, 0, 0, 1, 2, 0)", 0);
        DESK.ask("holds(0, 0, 0, 2, 3, 0)", 1);
        DESK.ask("holds(0, 1, 0, 1, 2, 3)", 0);
        DESK.ask("holds(0, 1, 0, 2, 2, 3)", 1);
        DESK.draw(0, -1000, -1000, 1000, 999, -999, 1000, 1000, -1000);
        DESK.ask("holds(0, 2, 0, 1, 2, 3)", 1);
        DESK.ask("holds(0, 3, 0, 1, 2, 3)", 1);
        DESK.ask("place(0, 2, -1000, 1000)", 1);
        DESK.ask("holds(0, 2, 0, 1, 2, 3)", 0);
        DESK.ask("holds(0, 3, 0, 1, 2, 3)", 0);
        DESK.draw(0, 0, 0, 1, -1, -1, 1, 1, 0);
        DESK.ask("holds(0, 4, 0, 1, 2, 0)", 1);
        DESK.ask("holds(0, 4, 0, 2, 3, 0)", 0);
        DESK.ask("place(0, 3, 0, -1)", 1);
        DESK.ask("holds(0, 4, 0, 2, 3, 0)", 0);
        DESK.draw(0, -1000, 999, -1000, 998, -1000, 1000, -999, 1000);
        DESK.ask("holds(0, 4, 0, 1, 2, 0)", 1);
        DESK.ask("holds(0, 4, 0, 1, 3, 0)", 0);
        DESK.ask("holds(0, 4, 2, 0, 1, 0)", 0);
        DESK.begin("BTW: the dot product is below 0", 3);
        DESK.ask("figure()", 0);
        DESK.draw(0, 0, 0, -1, 0, 1, 0);
        DESK.ask("holds(0, 6, 0, 1, 2, 0)", 1);
        DESK.ask("place(0, 2, 0, 0)", 1);
        DESK.ask("holds(0, 6, 0, 1, 2, 0)", 0);
        DESK.ask("place(0, 2, -1, 0)", 1);
        DESK.ask("holds(0, 6, 0, 1, 2, 0)", 0);
        DESK.ask("place(0, 2, 1, 1)", 1);
        DESK.ask("holds(0, 6, 0, 1, 2, 0)", 0);
        DESK.ask("place(0, 2, 1000, 0)", 1);
        DESK.ask("holds(0, 6, 0, 1, 2, 0)", 1);
        DESK.ask("holds(0, 4, 0, 1, 2, 0)", 0);
    }

    private static void circlesAreExact() {
        DESK.begin("CIRC: one circle goes through them, no three on a line", 4);
        DESK.ask("figure()", 0);
        DESK.draw(0, -1000, -1000, 1000, -1000, 1000, 1000, -1000, 1000);
        DESK.ask("holds(0, 5, 3, 0, 2, 1)", 1);
        DESK.askEach("place(0, 3, #)", 1, "-1000, 999");
        DESK.ask("holds(0, 5, 3, 0, 2, 1)", 0);
        // Each three of the four on a line once, and each two at one place: a circle would go through the others.
        int[][] lines = {
            {0, 0, 1, 0, 2, 0, 0, 1}, {0, 0, 1, 0, 0, 1, 2, 0}, {0, 0, 0, 1, 1, 0, 2, 0}, {0, 1, 0, 0, 1, 0, 2, 0},
            {0, 0, 0, 0, 1, 0, 0, 1}, {0, 0, 1, 0, 0, 0, 0, 1}, {0, 0, 1, 0, 0, 1, 0, 0}, {1, 0, 0, 0, 0, 0, 0, 1},
            {1, 0, 0, 0, 0, 1, 0, 0}, {1, 0, 0, 1, 0, 0, 0, 0}, {0, 0, 1, 1, 2, 2, 3, 3}, {5, 5, 5, 5, 5, 5, 5, 5},
        };
        for (int[] places : lines) {
            DESK.draw(0, places);
            DESK.ask("holds(0, 5, 0, 1, 2, 3)", 0);
        }
        DESK.draw(0, 0, 0, 1, 0, 1, 1, 0, 1);
        DESK.ask("holds(0, 5, 0, 1, 2, 3)", 1);
        DESK.draw(0, 0, 0, 1, 0, 1, 1, 0, 2);
        DESK.ask("holds(0, 5, 0, 1, 2, 3)", 0);
    }

    private static void goodFigures() {
        DESK.begin("GOOD: all POINTS have PLACES, no two the same, and all GIVEN rows HOLD", 3);
        DESK.ask("figure()", 0);
        DESK.ask("good(0)", 0);
        DESK.draw(0, 7, 7, 7, 8);
        DESK.ask("good(0)", 0);
        DESK.ask("place(0, 2, 8, 7)", 1);
        DESK.ask("good(0)", 1);
        DESK.askEach("place(0, 2, #)", 1, "7, 8");
        DESK.ask("good(0)", 0);
        DESK.askEach("place(0, 2, #)", 1, "7, 7");
        DESK.ask("good(0)", 0);
        DESK.askEach("place(0, 2, #)", 1, "7, 9");
        DESK.rows("line A B C given");
        DESK.ask("good(0)", 1);
        DESK.rows("mid C A B", "mid A B C seen", "mid C A B by 0");
        DESK.ask("good(0)", 1);
        DESK.rows("mid C A B given");
        DESK.ask("good(0)", 0);
        DESK.ask("back()", 4);
        DESK.ask("good(0)", 1);
        DESK.askEach("place(0, 2, #)", 1, "8, 9");
        DESK.ask("good(0)", 0);
    }

    private static void lettersStandForAnyPoints() {
        DESK.begin("letters stand for any POINTS, such that all that is told is a FACT", 3);
        DESK.rows("par A B B C given", "par B C A C given", "par A B A C by 0 of 2 1", "line A B C by 8 of 1");
        DESK.ask("grade()", 0);
        DESK.askFrom(1, "way(#)", 1, 1, 4, 4);
        // By rule 0 PAR ab ab would follow from one row told twice: that is no FACT, so nothing does.
        DESK.begin("letters stand for any POINTS: nothing follows from one row and itself", 4);
        DESK.rows("par A B C D given");
        DESK.ask("grade()", 0);
        DESK.askFrom(0, "reached(#)", 1, 0, 0, 0, 0, 0);
        DESK.begin("letters stand for any POINTS: rule 12 with one point told twice is no FACT", 4);
        DESK.rows("eq D A D B given", "eq D B D C given");
        DESK.ask("grade()", 0);
        DESK.askFrom(0, "reached(#)", 2, 1, 0, 0, 0, 0);
        DESK.ask("level(3, 3, 0, 3, 2)", 1);
    }

    private static void levelsEndAtFive() {
        // 1: EQ AB AC, BTW A BC. 2: COL ABC. 3: PAR AC CD, PAR BC CD. 4: COL ACD, COL BCD, and AB, AC, BC parallel
        // by twos. 5: COL ABD, and PAR of all that was not, but for AD and BD. 6: that.
        DESK.begin("LEVELS from all of them, up to 5", 4);
        DESK.rows("par A B C D given", "mid A B C given");
        DESK.ask("grade()", 0);
        DESK.askFrom(0, "reached(#)", 2, 2, 1, 2, 5, 9);
        DESK.ask("reached(6)", OUTSIDE);
        DESK.ask("level(4, 0, 1, 2, 0)", 0);
        DESK.ask("level(3, 0, 1, 0, 2)", 1);
        DESK.ask("level(6, 0, 1, 2, 0)", 1);
        DESK.ask("level(0, 0, 1, 2, 0)", 2);
        DESK.ask("level(1, 1, 2, 2, 3)", 3);
        DESK.ask("level(1, 0, 2, 2, 3)", 3);
        DESK.ask("level(0, 0, 2, 3, 0)", 4);
        DESK.ask("level(0, 0, 1, 3, 0)", 5);
        DESK.ask("level(1, 0, 3, 1, 3)", NONE);
        DESK.goal("line A B D", 1);
        DESK.askFrom(0, "hint(#)", 5, BTW, 0, 1, 2, NONE);
        DESK.goal("par A D B D", 1);
        DESK.askFrom(0, "hint(#)", NONE, NONE, NONE, NONE, NONE, NONE);
        // With one more row it is nearer by a step.
        DESK.rows("btw A B C");
        DESK.ask("grade()", 0);
        DESK.askFrom(0, "hint(#)", 5, COL, 0, 1, 2, NONE);
        DESK.askFrom(0, "reached(#)", 3, 2, 2, 5, 9, 1);
    }

    private static void factsOfLesserLevelsHaveThese() {
        DESK.begin("LEVEL n: and are none of these", 3);
        DESK.rows("mid A B C given", "line A B C given", "btw A B C", "line C B A");
        DESK.ask("grade()", 0);
        DESK.ask("level(0, 0, 1, 2, 0)", 0);
        DESK.ask("level(6, 0, 1, 2, 0)", 0);
        DESK.ask("level(3, 0, 1, 0, 2)", 1);
        DESK.askFrom(0, "reached(#)", 3, 1, 0, 0, 0, 0);
    }

    private static void theTapeHas120Bytes() {
        DESK.begin("The TAPE has up to 120 bytes", 3);
        for (int i = 1; i <= 15; i++) DESK.ask("feed(2314885530818453536, 8)", 8 * i);
        DESK.ask("feed(32, 1)", FULL);
        DESK.ask("feed(32, 8)", FULL);
        DESK.ask("told(3)", 120);
        DESK.ask("row()", -220);
        DESK.ask("told(3)", 0);
        for (int i = 1; i <= 14; i++) DESK.ask("feed(2314885530818453536, 8)", 8 * i);
        DESK.ask("feed(0, 1)", 113);
        DESK.ask("feed(0, 8)", FULL);
        DESK.ask("feed(0, 7)", 120);
        DESK.ask("wipe()", 120);
        String blanks = " ".repeat(110);
        DESK.rows(blanks + "line A B C", "line A B C" + blanks, "line" + " ".repeat(105) + "A B C given");
        DESK.ask("told(2)", 3);
        DESK.row(" ".repeat(119) + "x", -219);
        DESK.row("line A B" + " ".repeat(112), -220);
        DESK.row("line A B C" + " ".repeat(109) + "x", -219);
        DESK.goal(blanks + "line A B C", 1);
        DESK.word(1, 0, " ".repeat(112) + "abcdefgh", 1);
        DESK.word(1, 0, " ".repeat(120), -220);
        DESK.word(1, 0, "a" + " ".repeat(118) + "b", -219);
        // What stood on the TAPE before is no part of a shorter text.
        DESK.row("line A B C given by 16 of 1 2 3", -117);
        DESK.row("line A B", -108);
    }

    private static void onlyByte32IsBlank() {
        DESK.begin("bytes that are no blanks (32)", 3);
        for (int b = 0; b < 256; b++) {
            if (b % 64 == 0) DESK.begin("bytes that are no blanks (32)", 3);
            String text = "line A B" + (char) b + "C";
            DESK.row(text, b == 32 ? DESK.call("told(2)") + 1 : -107);
        }
        DESK.begin("bytes that are no blanks: more of them", 3);
        DESK.rows("   line   A  B     C   given  ");
    }

    private static void wordsHaveOneToEightLetters() {
        DESK.begin("WORDS: 1 to 8 letters a .. z", 3);
        DESK.word(0, 0, "a", 1);
        DESK.rows("a A B C");
        DESK.word(0, 0, "z", 1);
        DESK.rows("z A B C");
        DESK.word(0, 0, "abcdefg", 1);
        DESK.rows("abcdefg A B C");
        DESK.word(0, 0, "qrstuvwz", 1);
        DESK.rows("qrstuvwz A B C");
        DESK.word(0, 0, "qrstuvwxy", -100);
        DESK.refuse("#qrstuvwzz A B C", "#qrstuvw A B C", "#rstuvwz A B C", "#zqrstuvwz A B C", "#qrstuvwa A B C", "#arstuvwz A B C");
        for (int b = 0; b < 256; b++) {
            if (b % 64 == 0) DESK.begin("WORDS: letters a .. z", 3);
            if (b != ' ') DESK.word(0, 0, String.valueOf((char) b), b >= 'a' && b <= 'z' ? 1 : -100);
            if (b != ' ') DESK.word(0, 0, "  k" + (char) b, b >= 'a' && b <= 'z' ? 1 : -102);
        }
    }

    private static void pointsAreOneLetter() {
        for (int b = 0; b < 256; b++) {
            if (b % 64 == 0) DESK.begin("POINTS: one of A .. G", 7);
            if (b != ' ') DESK.goal("line " + (char) b + " B C", b == 'A' || b >= 'D' && b <= 'G' ? 1 : b == 'B' || b == 'C' ? -100 : -105);
        }
        DESK.begin("POINTS: one of A .. G, one letter", 7);
        DESK.refuse("line #AB C D", "line A #BC", "line A B #CD", "line A B #CC", "line A B #C1", "line A B #c", "line A B #1", "line A B #given");
    }

    private static void numbersHaveOneToThreeDigits() {
        DESK.begin("NUMBERS: 1 to 3 digits", 3);
        DESK.rows("line A B C by 7 of 9", "line A B C by 07 of 09", "line A B C by 007 of 009", "line A B C by 000 of 010");
        DESK.askFrom(1, "fact(#, 6)", 7, 7, 7, 0);
        DESK.askFrom(1, "because(#, 0)", 9, 9, 9, 10);
        DESK.refuse("line A B C by #0007", "line A B C by 7 of #0009", "line A B C by #7a", "line A B C by #-7", "line A B C by #+7",
            "line A B C by #7.", "line A B C by 7 of #1,2", "line A B C by #A", "line A B C by 7 of #A", "line A B C by 7 of #of");
        for (int b = 0; b < 256; b++) {
            if (b % 64 == 0) DESK.begin("NUMBERS: digits", 3);
            if (b == ' ' || b >= '0' && b <= '9') continue;
            DESK.row("line A B C by " + (char) b, -114);
            DESK.row("line A B C by 1" + (char) b, -114);
        }
    }

    private static void rulesAreZeroTo16() {
        DESK.begin("BY NUMBER (a RULE, 0 to 16)", 3);
        for (int rule = 0; rule <= 16; rule++) {
            DESK.rows("line A B C by " + rule);
            DESK.ask(call("fact", rule + 1, 6), rule);
            DESK.ask(call("fact", rule + 1, 7), 0);
        }
        DESK.refuse("line A B C by #17", "line A B C by #017", "line A B C by #99", "line A B C by #999", "line A B C by #17 of 1");
        DESK.rows("line A B C by 016 of 1");
    }

    private static void rowsOfAreOneTo999() {
        DESK.begin("OF NUMBERS (rows, 1 to 999, later ones and those that there are not, too)", 3);
        DESK.rows("line A B C by 0 of 1", "line A B C by 0 of 999", "line A B C by 0 of 41", "line A B C by 0 of 40 5 4 3");
        DESK.askFrom(1, "because(#, 0)", 1, 999, 41, 40);
        DESK.refuse("line A B C by 0 of #0", "line A B C by 0 of #00", "line A B C by 0 of #000", "line A B C by 0 of 1 #0", "line A B C by 0 of #1000",
            "line A B C by 0 of 999 #1000");
    }

    private static void rowsOfAreOneToSix() {
        DESK.begin("6 at most, one at least", 3);
        StringBuilder text = new StringBuilder("line A B C by 5 of");
        DESK.refuse(text + "#", text + " #", text + "   #");
        for (int n = 1; n <= 6; n++) {
            text.append(" ").append(10 + n);
            DESK.rows(text.toString());
            DESK.ask(call("fact", n, 7), n);
            for (int i = 0; i < n; i++) DESK.ask(call("because", n, i), 11 + i);
            DESK.ask(call("because", n, n), UNKNOWN);
        }
        DESK.refuse(text + " #17", text + " #x", text + "  #0", text + " #1 2 3");
        DESK.rows(text + "  ");
    }

    private static void rowsHaveOneReasonAtMost() {
        DESK.begin("then nothing, or GIVEN, or SEEN, or BY NUMBER, perhaps OF", 3);
        DESK.rows("line A B C", "line A B C given", "line A B C seen", "line A B C by 3", "line A B C by 3 of 1");
        DESK.askFrom(1, "fact(#, 5)", 0, 1, 2, 3, 3);
        DESK.askFrom(1, "fact(#, 6)", NONE, NONE, NONE, 3, 3);
        DESK.askFrom(1, "fact(#, 7)", 0, 0, 0, 0, 1);
        DESK.refuse("line A B C #of 1", "line A B C #3", "line A B C #D", "line A B C #line", "line A B C given #given", "line A B C given #of 1",
            "line A B C seen #by 3", "line A B C by 3 #seen", "line A B C by 3 #3", "line A B C by 3 of 1 #given", "line A B C by 3 of 1 #of 2",
            "line A B C by #of 1", "line A B C by#", "line A B C by  #");
        DESK.goal("line A B C given", -111);
        DESK.goal("line A B C of", -111);
        DESK.goal("line A B C D", -111);
        DESK.goal("line A B C  ", 1);
    }

    private static void theFirstFaultFromTheLeft() {
        DESK.begin("the first byte of the first one that can't stand there", 4);
        DESK.refuse("#given A B C", "#of A B C", "#A B C", "#1 A B C", "#linea A B C", "#Line A B C", "#line: A B C", "#lineABC",
            "line #line B C", "line A #E F", "line A B #E x", "par A B C #E", "par A B C #given", "  #x", "  line  A  #x  B", "line A B C #D",
            "circ A B C D #A", "line A B C #xyz 1 2", "line A B C by #x 1", "line A B C given #\t");
        DESK.goal("  x", -102);
        DESK.goal("line A B E", -109);
        DESK.word(0, 0, "  A b", -102);
        DESK.word(0, 0, "  b A", -104);
        DESK.word(0, 0, "b c d", -102);
    }

    private static void pointsThatMakeNoFact() {
        DESK.begin("of POINTS that make no FACT (asked when all are there) the first byte of the kind's WORD", 4);
        DESK.refuse("#line A A B", "  #line A B A", "#par A B B A", " #circ A B C A", "#line A A B x", "#line A A B given", "#line A A B D", "   #mid A B B by 99");
        DESK.refuse("line A A#", "line A A #", "line A A #E", "line A A #x", "par A A B#", "par A A B #E", "circ A A A #1");
        DESK.goal("  line A A B", -102);
        DESK.goal("line A A B x", -100);
        DESK.goal("line A A", -108);
    }

    private static void theLengthWhereOneMoreIsWanted() {
        DESK.begin("the length, where one more is wanted", 3);
        DESK.refuse("#", "     #", "line#", "line #", "line A#", "line A B#", "line A B   #", "par A B C#", "line A B C by#", "line A B C by 3 of#", "line A B C by 3 of   #");
        DESK.goal("", -100);
        DESK.goal("line A ", -107);
        DESK.word(0, 0, "", -100);
        DESK.word(0, 0, "       ", -107);
        DESK.ask("told(2)", 0);
    }

    private static void languagesAreTwo() {
        String[] reasons = {"given", "seen", "by", "of"};
        for (int l = 0; l < 2; l++) {
            DESK.begin("LANGUAGES 0 and 1 have the WORDS, at first in both", 4);
            DESK.ask("language(" + l + ")", 0);
            for (int kind = 0; kind < 7; kind++) {
                DESK.rows(WORDS[kind] + " A B C" + (kind == COL || kind == MID || kind == BTW ? "" : " D"));
                DESK.ask(call("fact", kind + 1, 0), kind);
            }
            DESK.rows("line A B C given", "line A B C seen", "line A B C by 4 of 2");
            DESK.askFrom(8, "fact(#, 5)", 1, 2, 3);
            for (int i = 0; i < 7; i++) DESK.word(l, i, WORDS[i], 1);
            for (int i = 0; i < 4; i++) DESK.word(l, 7 + i, reasons[i], 1);
        }
        DESK.begin("LANGUAGE 0 is the one at hand at first", 3);
        DESK.word(1, 0, "x", 1);
        DESK.refuse("#x A B C");
        DESK.word(0, 0, "y", 1);
        DESK.rows("y A B C");
        DESK.ask("language(1)", 0);
        DESK.refuse("#y A B C", "#line A B C");
        DESK.rows("x A B C");
    }

    private static void rowsAreForty() {
        DESK.begin("ROWS 1, 2, .. 40", 3);
        for (int i = 1; i <= 40; i++) DESK.row(i == 40 ? "btw A B C" : "line A B C", i);
        DESK.row("line A B C", FULL);
        DESK.ask("told(2)", 40);
        DESK.ask("told(3)", 0);
        DESK.ask("fact(40, 0)", BTW);
        DESK.ask("fact(41, 0)", UNKNOWN);
        DESK.ask("grade()", 1);
        DESK.ask("order(40)", 40);
        DESK.ask("verdict(40)", 2);
        DESK.ask("verdict(41)", UNKNOWN);
        DESK.ask("marks(1)", 80);
        DESK.ask("back()", 39);
        DESK.ask("fact(40, 0)", UNKNOWN);
        DESK.row("eq A B A C given", 40);
        DESK.row("eq A B A C given", FULL);
    }

    private static void rowsThatThereAreNot() {
        DESK.begin("those that there are not do not matter, here and below", 3);
        DESK.rows("line A B C by 5 of 999", "line A B C by 5 of 4 41 3", "btw A B C given");
        DESK.ask("grade()", 1);
        DESK.askFrom(1, "order(#)", 1, 3, 2);
        DESK.askFrom(1, "way(#)", 0, 4, 1);
        DESK.ask("told(6)", 0);
        DESK.ask("circle(0)", NONE);
        // Row 4 is there now.
        DESK.rows("line A B C by 5 of 2");
        DESK.ask("grade()", 1);
        DESK.askFrom(1, "order(#)", 1, NONE, 2, NONE);
        DESK.ask("back()", 3);
        DESK.ask("grade()", 1);
        DESK.askFrom(1, "order(#)", 1, 3, 2);
        DESK.begin("the one of the least number whose rows OF are all graded", 3);
        DESK.rows("line A B C by 5 of 4", "line A B C by 5 of 1", "line A B C", "line A B C by 5 of 3", "line A B C");
        DESK.ask("grade()", 1);
        DESK.askFrom(1, "order(#)", 3, 4, 1, 2, 5);
    }

    private static void againIsAskedFirst() {
        DESK.begin("AGAIN (asked first, but of GIVEN ones)", 3);
        DESK.ask("figure()", 0);
        DESK.draw(0, 1, 0, 0, 0, 2, 0);
        DESK.rows("mid A B C given", "btw A B C by 4 of 1", "btw A C B seen", "btw A B C by 4 of 1", "btw A B C", "btw A B C given", "line A B C", "line A B C");
        DESK.ask("grade()", 0);
        DESK.askFrom(1, "way(#)", 1, 4, 2, 2, 2, 1, 5, 2);
        DESK.askFrom(1, "gap(#)", 0, 0, 0, 0, 0, 0, 1, 0);
        DESK.ask("marks(0)", 3);
        DESK.begin("AGAIN: a row that is RIGHT and graded ahead of it", 3);
        DESK.rows("line A B C", "line A B C", "line A B C given", "line A B C");
        DESK.ask("grade()", 1);
        DESK.askFrom(1, "way(#)", 0, 0, 1, 2);
        DESK.askFrom(1, "verdict(#)", 2, 2, 1, 1);
    }

    private static void seenNeedsAGoodFigure() {
        DESK.begin("SEEN: a BTW that HOLDS in all GOOD FIGURES, one at least", 3);
        DESK.rows("btw A B C seen", "btw A B C", "line A B C seen", "btw A B C by 4 of 9");
        DESK.ask("grade()", 1);
        DESK.askFrom(1, "way(#)", 0, 0, 0, 0);
        DESK.askFrom(1, "verdict(#)", 2, 2, 2, 2);
        DESK.ask("figure()", 0);
        DESK.draw(0, 1, 0, 0, 0);
        DESK.ask("grade()", 1);
        DESK.ask("way(1)", 0);
        DESK.ask("place(0, 2, 2, 0)", 1);
        DESK.ask("grade()", 0);
        DESK.askFrom(1, "way(#)", 3, 2, 5, 2);
        DESK.ask("told(7)", 1);
        // A figure that is not good does not matter, a good one in which it does not hold does.
        DESK.ask("figure()", 1);
        DESK.draw(1, 9, 9, 0, 0, 0, 0);
        DESK.ask("grade()", 0);
        DESK.ask("way(1)", 3);
        DESK.ask("place(1, 2, 0, 1)", 1);
        DESK.ask("grade()", 1);
        DESK.ask("way(1)", 0);
        DESK.ask("verdict(1)", 0);
        DESK.ask("counter(1)", 1);
        DESK.ask("told(7)", 0);
        DESK.begin("SEEN: of others it is no WAY", 3);
        DESK.ask("figure()", 0);
        DESK.draw(0, 1, 0, 0, 0, 2, 0);
        DESK.rows("line A B C seen", "mid A B C seen", "eq A B A C seen", "btw A B C", "btw A B C by 4");
        DESK.ask("grade()", 1);
        DESK.askFrom(1, "way(#)", 0, 0, 0, 0, 0);
        DESK.askFrom(1, "verdict(#)", 2, 2, 2, 2, 2);
        DESK.begin("FOUND is asked of all others that have no WAY, SEEN ones, too", 3);
        DESK.rows("mid A B C given", "btw A B C seen", "line A B C seen");
        DESK.ask("grade()", 0);
        DESK.askFrom(1, "way(#)", 1, 5, 5);
        DESK.askFrom(1, "gap(#)", 0, 1, 1);
    }

    private static void byNeedsRightRows() {
        DESK.begin("BY: it FOLLOWS by its RULE from rows OF that are RIGHT", 4);
        DESK.rows("mid A B C", "btw A B C by 4 of 1", "mid B A D given", "btw B A D by 4 of 1 3", "line B A D by 5 of 1 2 4", "eq B A B D by 4 of 3", "line A B C by 5 of 2");
        DESK.ask("grade()", 1);
        DESK.askFrom(1, "way(#)", 0, 0, 1, 4, 4, 5, 0);
        DESK.askFrom(1, "verdict(#)", 2, 2, 1, 1, 1, 1, 2);
        DESK.begin("BY: without rows OF nothing FOLLOWS by the RULE", 3);
        DESK.rows("mid A B C given", "btw A B C by 4", "eq A B A C by 3 of 2");
        DESK.ask("grade()", 0);
        DESK.askFrom(1, "way(#)", 1, 5, 5);
    }

    private static void foundIsOneOrTwo() {
        DESK.begin("FOUND: its LEVEL is 1 or 2", 4);
        DESK.rows("mid A B C given", "par A B C D given", "line A B D", "par A C C D", "line A B C", "par A C C D", "eq A B A C");
        DESK.ask("grade()", 3);
        DESK.askFrom(1, "way(#)", 1, 1, 0, 0, 5, 5, 5);
        DESK.askFrom(1, "gap(#)", 0, 0, 0, 0, 2, 1, 1);
        DESK.askFrom(1, "verdict(#)", 1, 1, 2, 2, 1, 1, 1);
        DESK.ask("marks(0)", 3);
        DESK.begin("FOUND: from rows graded ahead of it", 3);
        DESK.rows("btw A B C", "mid A B C given", "btw A B C");
        DESK.ask("grade()", 1);
        DESK.askFrom(1, "way(#)", 0, 1, 5);
    }

    private static void givenIsRightWhateverItSays() {
        DESK.begin("GIVEN ones are RIGHT whatever they say", 3);
        DESK.ask("figure()", 0);
        DESK.draw(0, 0, 0, 1, 0, 0, 1);
        DESK.rows("line A B C given", "perp A B A C given", "perp A B B C given", "perp A B B C given", "eq A B A C");
        DESK.ask("grade()", 5);
        DESK.askFrom(1, "verdict(#)", 1, 1, 1, 1, 2);
        DESK.askFrom(1, "way(#)", 1, 1, 1, 1, 0);
        DESK.askFrom(1, "counter(#)", NONE, NONE, NONE, NONE, NONE);
        DESK.ask("good(0)", 0);
    }

    private static void theCounterIsTheFirstFigure() {
        DESK.begin("WRONG, if there is a GOOD FIGURE in which it does not HOLD (the COUNTER is the first one)", 3);
        DESK.rows("eq A B A C");
        for (int i = 0; i < 6; i++) DESK.ask("figure()", i);
        DESK.ask("grade()", 1);
        DESK.ask("verdict(1)", 2);
        DESK.ask("counter(1)", NONE);
        DESK.draw(5, 0, 0, 1, 0, 0, 2);
        DESK.ask("grade()", 1);
        DESK.ask("verdict(1)", 0);
        DESK.ask("counter(1)", 5);
        DESK.draw(0, 0, 0, 1, 0, 0, 1);
        DESK.draw(1, 0, 0, 1, 0, 1, 0);
        DESK.draw(3, 0, 0, 3, 0, 0, 2);
        DESK.ask("grade()", 1);
        DESK.ask("counter(1)", 3);
        DESK.ask("place(0, 2, 0, 2)", 1);
        DESK.ask("grade()", 1);
        DESK.ask("counter(1)", 0);
        DESK.ask("verdict(1)", 0);
    }

    private static void circularRows() {
        DESK.begin("CIRCULAR ones are WRONG, without COUNTER", 3);
        DESK.ask("figure()", 0);
        DESK.draw(0, 0, 0, 1, 0, 0, 1);
        DESK.rows("line A B C by 5 of 1", "line A B C by 5 of 1", "line A B C by 5", "eq A B A C given", "eq A B A C by 3 of 2");
        DESK.ask("grade()", 1);
        DESK.askFrom(1, "verdict(#)", 0, 0, 0, 1, 0);
        DESK.askFrom(1, "counter(#)", NONE, NONE, 0, NONE, NONE);
        DESK.askFrom(1, "order(#)", NONE, NONE, 1, 2, NONE);
        DESK.askFrom(1, "way(#)", 0, 0, 0, 1, 0);
        DESK.ask("told(6)", 3);
    }

    /** What a former grade() said of a row is gone with the next one. */
    private static void gradedAnew() {
        DESK.begin("All rows are graded: one that was RIGHT is CIRCULAR now, and RIGHT again", 3);
        DESK.ask("figure()", 0);
        DESK.draw(0, 1, 0, 0, 0, 3, 0);
        DESK.rows("btw A B C given", "line A B C by 8 of 5", "eq A B A C by 3 of 5", "btw A B C by 4 of 5");
        for (int i = 0; i < 2; i++) {
            DESK.ask("grade()", 3);
            DESK.askFrom(1, "verdict(#)", 1, 1, 0, 1);
            DESK.askFrom(1, "way(#)", 1, 5, 0, 2);
            DESK.askFrom(1, "gap(#)", 0, 1, 0, 0);
            DESK.askFrom(1, "counter(#)", NONE, NONE, 0, NONE);
            DESK.askFrom(1, "order(#)", 1, 2, 3, 4);
            DESK.askFrom(5, "told(#)", 3, 0, 0);
            DESK.ask("circle(0)", NONE);
            DESK.ask("marks(0)", 1);
            DESK.rows("mid A B C by 15 of 2");
            DESK.ask("grade()", 2);
            DESK.askFrom(1, "verdict(#)", 1, 0, 0, 0, 0);
            DESK.askFrom(1, "way(#)", 1, 0, 0, 0, 0);
            DESK.askFrom(1, "gap(#)", 0, 0, 0, 0, 0);
            DESK.askFrom(1, "counter(#)", NONE, NONE, NONE, NONE, NONE);
            DESK.askFrom(1, "order(#)", 1, NONE, NONE, NONE, NONE);
            DESK.askFrom(5, "told(#)", 1, 4, 0);
            DESK.askFrom(0, "circle(#)", 2, 5, NONE);
            DESK.ask("marks(0)", 0);
            DESK.ask("back()", 4);
        }
        DESK.begin("All rows are graded: a FIGURE that was GOOD is not so now", 3);
        DESK.rows("btw A B C seen", "mid A B C");
        DESK.ask("figure()", 0);
        DESK.draw(0, 1, 0, 0, 0, 3, 0);
        DESK.ask("grade()", 2);
        DESK.ask("way(1)", 3);
        DESK.ask("counter(2)", 0);
        DESK.ask("place(0, 2, 1, 0)", 1);
        DESK.ask("grade()", 1);
        DESK.askFrom(1, "way(#)", 0, 0);
        DESK.askFrom(1, "verdict(#)", 2, 2);
        DESK.askFrom(1, "counter(#)", NONE, NONE);
        DESK.askFrom(5, "told(#)", 0, 0, 0);
        DESK.askFrom(0, "reached(#)", 0, 0, 0, 0, 0, 0);
    }

    private static void theCircle() {
        DESK.begin("THE CIRCLE: to the first one that comes twice: from there on round, once", 3);
        DESK.rows("line A B C by 5 of 2", "line A B C by 5 of 99 5 3", "line A B C by 5 of 5 4 3", "line A B C by 5 of 3", "line A B C given");
        DESK.ask("grade()", 1);
        // 1 leads to 2, 2 by its third to 3 (5 is graded), 3 by its second to 4, 4 to 3.
        DESK.askFrom(0, "circle(#)", 3, 4, NONE, NONE);
        DESK.begin("THE CIRCLE: of one row", 3);
        DESK.rows("line A B C", "line A B C by 5 of 1 2 3", "line A B C by 5 of 2");
        DESK.ask("grade()", 1);
        DESK.askFrom(0, "circle(#)", 2, NONE);
        DESK.begin("THE CIRCLE: the only row, and the last one", 3);
        DESK.rows("line A B C by 5 of 1");
        DESK.ask("grade()", 1);
        DESK.askFrom(0, "circle(#)", 1, NONE);
        DESK.ask("back()", 0);
        DESK.rows("btw A B C given", "line A B C by 5 of 1 2");
        DESK.ask("grade()", 2);
        DESK.askFrom(0, "circle(#)", 2, NONE);
        DESK.begin("THE CIRCLE: it may begin at a greater row", 3);
        DESK.rows("line A B C by 5 of 3", "line A B C by 5 of 3", "line A B C by 5 of 2 1");
        DESK.ask("grade()", 1);
        DESK.askFrom(0, "circle(#)", 3, 2, NONE);
        DESK.begin("THE CIRCLE: of all rows", 3);
        for (int i = 1; i <= 40; i++) DESK.rows("line A B C by 5 of " + (i == 1 ? 40 : i - 1));
        DESK.ask("grade()", 1);
        DESK.ask("circle(0)", 1);
        for (int i = 1; i < 40; i++) DESK.ask(call("circle", i), 41 - i);
        DESK.ask("circle(40)", NONE);
        DESK.ask("told(6)", 40);
    }

    private static void theMarks() {
        DESK.begin("MARKS: and 5, if the last row is RIGHT, and is the GOAL", 3);
        DESK.ask("grade()", 0);
        DESK.askFrom(0, "marks(#)", 0, 0, OUTSIDE);
        DESK.goal("line A B C", 1);
        DESK.askFrom(0, "marks(#)", 0, 5);
        DESK.rows("btw A B C given", "line C B A by 5 of 1");
        DESK.ask("grade()", 0);
        DESK.askFrom(0, "marks(#)", 7, 7);
        DESK.rows("line A B C");
        DESK.ask("grade()", 0);
        DESK.askFrom(0, "marks(#)", 7, 9);
        DESK.rows("btw A B C");
        DESK.ask("grade()", 0);
        DESK.askFrom(0, "marks(#)", 2, 11);
        DESK.rows("line A B C by 5 of 5");
        DESK.ask("grade()", 5);
        DESK.askFrom(0, "marks(#)", 2, 13);
        DESK.begin("MARKS: the last row is the GOAL, but not RIGHT", 3);
        DESK.rows("line A B C");
        DESK.goal("line A B C", 1);
        DESK.ask("grade()", 1);
        DESK.askFrom(0, "marks(#)", 0, 7);
        DESK.begin("MARKS: 2 for WAY 4, 1 for 3 and 5", 3);
        DESK.ask("figure()", 0);
        DESK.draw(0, 1, 0, 0, 0, 2, 0);
        DESK.rows("btw A B C seen");
        DESK.ask("grade()", 0);
        DESK.askFrom(0, "marks(#)", 1, 2);
        DESK.rows("line A B C by 5 of 1", "eq A B A C given", "mid A B C");
        DESK.ask("grade()", 0);
        DESK.askFrom(0, "marks(#)", 4, 6);
    }

    private static void theHint() {
        DESK.begin("THE HINT: if the GOAL has a LEVEL above 0", 4);
        DESK.rows("mid A B C given", "par A B C D given");
        DESK.ask("grade()", 0);
        DESK.askFrom(0, "hint(#)", NONE, NONE, NONE, NONE, NONE, NONE, OUTSIDE);
        DESK.goal("mid A C B", 1);
        DESK.askFrom(0, "hint(#)", 0, NONE, NONE, NONE, NONE, NONE, OUTSIDE);
        DESK.goal("eq A B C A", 1);
        DESK.askFrom(0, "hint(#)", 1, EQ, 0, 1, 0, 2, OUTSIDE);
        DESK.goal("line A B C", 1);
        DESK.askFrom(0, "hint(#)", 2, BTW, 0, 1, 2, NONE, OUTSIDE);
        DESK.goal("circ A B C D", 1);
        DESK.askFrom(0, "hint(#)", NONE, NONE, NONE, NONE, NONE, NONE, OUTSIDE);
        // EQ AC DF by rule 7, the least c d are A B: EQ AC AB (1) and EQ AB DF (2), which is of EQ AB DE (0) and EQ DE DF (1).
        DESK.begin("THE HINT: of the FACTS ahead of the colon the one of the greatest LEVEL", 6);
        DESK.rows("mid A B C given", "mid D E F given", "eq A B D E given");
        DESK.goal("eq A C D F", 1);
        DESK.ask("grade()", 0);
        DESK.askFrom(0, "hint(#)", 3, EQ, 3, 4, 3, 5);
        // By rule 15 of COL ABC (1) and EQ AB AC (1).
        DESK.begin("THE HINT: the first one of the greatest LEVEL", 5);
        DESK.rows("btw A B C given", "eq A B D E given", "eq D E A C given");
        DESK.goal("mid A B C", 1);
        DESK.ask("grade()", 0);
        DESK.askFrom(0, "hint(#)", 2, COL, 0, 1, 2, NONE);
        // By rule 0 of PAR AB CD (1), by rule 14 of PAR AG EF (1).
        DESK.begin("THE HINT: by the least RULE", 7);
        DESK.rows("par A G C D given", "line A B G given", "par C D E F given");
        DESK.goal("par A B E F", 1);
        DESK.ask("grade()", 0);
        DESK.askFrom(0, "hint(#)", 2, PAR, 0, 1, 2, 3);
        // By rule 13 with a b c = B C D of BCDE (0) and BCDF (1); with B F A it would be of ABCF (1) and ABEF (1).
        DESK.begin("THE HINT: with the least row of POINTS for its letters", 6);
        DESK.rows("circ B C D E given", "circ A C D F given", "circ A D E F given", "circ A B D F given");
        DESK.goal("circ B C E F", 1);
        DESK.ask("grade()", 0);
        DESK.askFrom(0, "hint(#)", 2, CIRC, 1, 2, 3, 5);
    }
}
