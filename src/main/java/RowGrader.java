/**
 * Grading of people's proofs about points of the plane: rows of facts typed in words of a language,
 * each by a rule and former rows, given, seen, or without a reason; checked by the rule, by a short
 * proof, or refuted by an exact figure.
 */
public final class RowGrader {
    public static final int UNKNOWN = -1, OUTSIDE = -2, STATE = -3, FULL = -4, NONE = -5;

    private static final int NO = -1;

    private static final int MOST_POINTS = 7, MOST_ROWS = 40, MOST_FIGURES = 6, MOST_BYTES = 120;
    private static final int MOST_OF = 6, LANGUAGES = 2, MOST_AWAY = 1000;

    private static final int COL = 0, PAR = 1, PERP = 2, EQ = 3, MID = 4, CIRC = 5, BTW = 6;
    private static final int KINDS = 7;

    private static final int GIVEN = 1, SEEN = 2, BY = 3;
    private static final int WORD_GIVEN = 7, WORD_SEEN = 8, WORD_BY = 9, WORD_OF = 10, WORDS = 11;

    private static final int WRONG = 0, RIGHT = 1, OPEN = 2;
    private static final int WAY_NONE = 0, WAY_GIVEN = 1, WAY_AGAIN = 2, WAY_SEEN = 3, WAY_BY = 4, WAY_FOUND = 5;

    private static final int RULES = 17, DEEPEST = 5, LONGEST_GAP = 2;

    // Places reach down to -1000, so a fault of placed() stands below all of them.
    private static final int BELOW_PLACES = -2000;
    private static final int BELOW_FAULTS = -100;

    private final Sheet sheet;
    private final Tape tape;
    private final Words words;
    private final Reader reader;
    private final Grading grading;

    public RowGrader() {
        sheet = new Sheet();
        tape = new Tape();
        words = new Words();
        reader = new Reader(sheet, tape, words);
        grading = new Grading(sheet);
    }

    // ---- points and figures

    public int points(int n) {
        if (n < 2 || n > MOST_POINTS) return OUTSIDE;
        if (sheet.rowCount > 0 || sheet.hasGoal || sheet.figureCount > 0) return STATE;
        sheet.pointCount = n;
        grading.graded = false;
        return 1;
    }

    public int figure() {
        if (sheet.pointCount == 0) return STATE;
        if (sheet.figureCount >= MOST_FIGURES) return FULL;
        grading.graded = false;
        sheet.figureCount++;
        return sheet.figureCount - 1;
    }

    public int place(int figure, int p, int x, int y) {
        Figure drawn = sheet.figureAt(figure);
        if (drawn == null || !sheet.hasPoint(p)) return UNKNOWN;
        if (x < -MOST_AWAY || x > MOST_AWAY || y < -MOST_AWAY || y > MOST_AWAY) return OUTSIDE;
        drawn.put(p, x, y);
        grading.graded = false;
        return 1;
    }

    public int placed(int figure, int p, int side) {
        Figure drawn = sheet.figureAt(figure);
        if (drawn == null || !sheet.hasPoint(p)) return BELOW_PLACES + UNKNOWN;
        if (side != 0 && side != 1) return BELOW_PLACES + OUTSIDE;
        if (!drawn.has(p)) return BELOW_PLACES + STATE;
        return side == 0 ? drawn.x(p) : drawn.y(p);
    }

    public int good(int figure) {
        Figure drawn = sheet.figureAt(figure);
        if (drawn == null) return UNKNOWN;
        return sheet.isGood(drawn) ? 1 : 0;
    }

    public int holds(int figure, int kind, int a, int b, int c, int d) {
        Figure drawn = sheet.figureAt(figure);
        if (drawn == null) return UNKNOWN;
        int asked = sheet.factOf(kind, a, b, c, d);
        if (asked == NO) return OUTSIDE;
        return drawn.shows(asked) ? 1 : 0;
    }

    // ---- texts

    public int feed(long w, int n) {
        if (n < 1 || n > 8) return OUTSIDE;
        if (tape.count + n > MOST_BYTES) return FULL;
        tape.append(w, n);
        return tape.count;
    }

    public int wipe() {
        return tape.empty();
    }

    public int language(int l) {
        if (l < 0 || l >= LANGUAGES) return UNKNOWN;
        int former = words.atHand;
        words.atHand = l;
        return former;
    }

    public int word(int language, int which) {
        if (language < 0 || language >= LANGUAGES) return UNKNOWN;
        if (which < 0 || which >= WORDS) return OUTSIDE;
        int fault = reader.readWord();
        tape.empty();
        if (fault != NO) return BELOW_FAULTS - fault;
        int holder = words.find(language, reader.newWord);
        if (holder != NO && holder != which) return STATE;
        words.set(language, which, reader.newWord);
        return 1;
    }

    public int row() {
        if (sheet.pointCount == 0) return STATE;
        int fault = reader.readRow();
        tape.empty();
        if (fault != NO) return BELOW_FAULTS - fault;
        if (!sheet.add(reader.draft)) return FULL;
        grading.graded = false;
        return sheet.rowCount;
    }

    public int goal() {
        if (sheet.pointCount == 0) return STATE;
        int fault = reader.readGoal();
        tape.empty();
        if (fault != NO) return BELOW_FAULTS - fault;
        sheet.aim(reader.draft);
        return 1;
    }

    public int back() {
        if (sheet.rowCount == 0) return STATE;
        sheet.rowCount--;
        grading.graded = false;
        return sheet.rowCount;
    }

    // ---- rows

    public int fact(int row, int what) {
        Row told = sheet.rowOrGoal(row);
        if (told == null) return UNKNOWN;
        if (what < 0 || what > 7) return OUTSIDE;
        if (what == 0) return Facts.kindOf(told.fact);
        if (what <= 4) return Facts.pointOf(told.fact, what - 1);
        if (what == 5) return told.reason;
        return what == 6 ? told.rule : told.ofCount;
    }

    public int because(int row, int i) {
        Row told = sheet.rowAt(row);
        if (told == null || i < 0 || i >= told.ofCount) return UNKNOWN;
        return told.ofAt(i);
    }

    public int alike(int row, int kind, int a, int b, int c, int d) {
        Row told = sheet.rowOrGoal(row);
        if (told == null) return UNKNOWN;
        int asked = sheet.factOf(kind, a, b, c, d);
        if (asked == NO) return OUTSIDE;
        return asked == told.fact ? 1 : 0;
    }

    // ---- grading

    public int grade() {
        if (!grading.graded) grading.gradeAnew();
        return grading.firstNotRight();
    }

    public int verdict(int row) {
        Row told = sheet.rowAt(row);
        if (told == null) return UNKNOWN;
        return grading.graded ? told.verdict : STATE;
    }

    public int way(int row) {
        Row told = sheet.rowAt(row);
        if (told == null) return UNKNOWN;
        return grading.graded ? told.way : STATE;
    }

    public int gap(int row) {
        Row told = sheet.rowAt(row);
        if (told == null) return UNKNOWN;
        return grading.graded ? told.gap : STATE;
    }

    public int counter(int row) {
        Row told = sheet.rowAt(row);
        if (told == null) return UNKNOWN;
        return grading.graded ? told.counter : STATE;
    }

    public int circle(int i) {
        return grading.graded ? grading.circleAt(i) : STATE;
    }

    public int order(int row) {
        Row told = sheet.rowAt(row);
        if (told == null) return UNKNOWN;
        if (!grading.graded) return STATE;
        return told.turn == 0 ? NONE : told.turn;
    }

    public int marks(int side) {
        if (side != 0 && side != 1) return OUTSIDE;
        if (!grading.graded) return STATE;
        return side == 0 ? grading.marksGot() : grading.marksAtMost();
    }

    public int hint(int what) {
        if (what < 0 || what > 5) return OUTSIDE;
        if (!grading.graded) return STATE;
        if (!sheet.hasGoal) return NONE;
        if (what == 0) return grading.levelOf(sheet.aimed.fact);
        int shown = grading.hintTo(sheet.aimed.fact);
        if (shown == NO) return NONE;
        return what == 1 ? Facts.kindOf(shown) : Facts.pointOf(shown, what - 2);
    }

    public int level(int kind, int a, int b, int c, int d) {
        int asked = sheet.factOf(kind, a, b, c, d);
        if (asked == NO) return OUTSIDE;
        return grading.graded ? grading.levelOf(asked) : STATE;
    }

    public int reached(int n) {
        if (n < 0 || n > DEEPEST) return OUTSIDE;
        return grading.graded ? grading.factsOfLevel(n) : STATE;
    }

    public int told(int what) {
        switch (what) {
            case 0: return sheet.pointCount;
            case 1: return sheet.figureCount;
            case 2: return sheet.rowCount;
            case 3: return tape.count;
            case 4: return sheet.hasGoal ? 1 : 0;
            case 5: return grading.graded ? grading.rightRows : 0;
            case 6: return grading.graded ? grading.circularRows : 0;
            case 7: return grading.graded ? grading.seenRows : 0;
            default: return OUTSIDE;
        }
    }

    /**
     * Facts as numbers: alike ones have one number, so that being alike is being equal. A set of points
     * is a mask; two pairs are a corner of the triangle of all pairs; a middle is a point and a pair.
     */
    private static final class Facts {
        static final int PAIRS = 21, CORNERS = 210;
        static final int COL_AT = 0, PAR_AT = 128, PERP_AT = 338, EQ_AT = 548;
        static final int MID_AT = 758, CIRC_AT = 905, BTW_AT = 1033, SIZE = 1180;
        // 35 COL, three times 210 of two pairs, 105 MID, 35 CIRC, 105 BTW.
        static final int REAL = 910;

        private static final int[] LOW = {0, 0, 1, 0, 1, 2, 0, 1, 2, 3, 0, 1, 2, 3, 4, 0, 1, 2, 3, 4, 5};
        private static final int[] HIGH = {1, 2, 2, 3, 3, 3, 4, 4, 4, 4, 5, 5, 5, 5, 5, 6, 6, 6, 6, 6, 6};

        static int pair(int a, int b) {
            if (a == b) return NO;
            return a < b ? b * (b - 1) / 2 + a : a * (a - 1) / 2 + b;
        }

        static int low(int pair) {
            return pair < 0 || pair >= PAIRS ? 0 : LOW[pair];
        }

        static int high(int pair) {
            return pair < 0 || pair >= PAIRS ? 0 : HIGH[pair];
        }

        static int ofPairs(int base, int p, int q) {
            if (p < 0 || q < 0 || p == q) return NO;
            return p < q ? base + q * (q - 1) / 2 + p : base + p * (p - 1) / 2 + q;
        }

        static int ofMiddle(int base, int m, int a, int b) {
            if (m == a || m == b || a == b) return NO;
            return base + m * PAIRS + (a < b ? b * (b - 1) / 2 + a : a * (a - 1) / 2 + b);
        }

        static int ofLine(int a, int b, int c) {
            if (a == b || a == c || b == c) return NO;
            return COL_AT + (1 << a | 1 << b | 1 << c);
        }

        static int ofCircle(int a, int b, int c, int d) {
            if (a == b || a == c || a == d || b == c || b == d || c == d) return NO;
            return CIRC_AT + (1 << a | 1 << b | 1 << c | 1 << d);
        }

        /** The number of a fact, NO for what is none; the points asked are ones that there can be. */
        static int number(int kind, int a, int b, int c, int d) {
            switch (kind) {
                case COL: return ofLine(a, b, c);
                case PAR: return ofPairs(PAR_AT, pair(a, b), pair(c, d));
                case PERP: return ofPairs(PERP_AT, pair(a, b), pair(c, d));
                case EQ: return ofPairs(EQ_AT, pair(a, b), pair(c, d));
                case MID: return ofMiddle(MID_AT, a, b, c);
                case CIRC: return ofCircle(a, b, c, d);
                case BTW: return ofMiddle(BTW_AT, a, b, c);
                default: return NO;
            }
        }

        static int pointsOf(int kind) {
            return kind == COL || kind == MID || kind == BTW ? 3 : 4;
        }

        static int kindOf(int fact) {
            if (fact < PAR_AT) return COL;
            if (fact < PERP_AT) return PAR;
            if (fact < EQ_AT) return PERP;
            if (fact < MID_AT) return EQ;
            if (fact < CIRC_AT) return MID;
            return fact < BTW_AT ? CIRC : BTW;
        }

        /** Point i of the normal form, from 0 on; NONE where the kind has none. */
        static int pointOf(int fact, int i) {
            int kind = kindOf(fact);
            if (i < 0 || i >= pointsOf(kind)) return NONE;
            switch (kind) {
                case COL: return bitOf(fact - COL_AT, i);
                case CIRC: return bitOf(fact - CIRC_AT, i);
                case MID: return ofMiddlePoint(fact - MID_AT, i);
                case BTW: return ofMiddlePoint(fact - BTW_AT, i);
                default: return ofPairsPoint(fact, i);
            }
        }

        private static int bitOf(int mask, int i) {
            int left = mask;
            for (int k = 0; k < i; k++) left &= left - 1;
            return Integer.numberOfTrailingZeros(left);
        }

        private static int ofMiddlePoint(int place, int i) {
            if (i == 0) return place / PAIRS;
            return i == 1 ? low(place % PAIRS) : high(place % PAIRS);
        }

        private static int ofPairsPoint(int fact, int i) {
            int great = greatPair(fact);
            int less = lessPair(fact, great);
            boolean lessFirst = low(less) * MOST_POINTS + high(less) < low(great) * MOST_POINTS + high(great);
            int pair = (i < 2) == lessFirst ? less : great;
            return i % 2 == 0 ? low(pair) : high(pair);
        }

        static int greatPair(int fact) {
            int corner = (fact - PAR_AT) % CORNERS;
            int pair = 1;
            while (pair < PAIRS - 1 && corner >= pair * (pair + 1) / 2) pair++;
            return pair;
        }

        static int lessPair(int fact, int great) {
            return (fact - PAR_AT) % CORNERS - great * (great - 1) / 2;
        }
    }

    /** Places of the points, some of which may have none. */
    private static final class Figure {
        private final int[] xs = new int[MOST_POINTS];
        private final int[] ys = new int[MOST_POINTS];
        private int placedMask;

        boolean has(int p) {
            return p >= 0 && p < MOST_POINTS && (placedMask >> p & 1) == 1;
        }

        void put(int p, int x, int y) {
            if (p < 0 || p >= MOST_POINTS) return;
            xs[p] = x;
            ys[p] = y;
            placedMask |= 1 << p;
        }

        int x(int p) {
            return p < 0 || p >= MOST_POINTS ? 0 : xs[p];
        }

        int y(int p) {
            return p < 0 || p >= MOST_POINTS ? 0 : ys[p];
        }

        boolean allApart(int points) {
            for (int p = 0; p < points; p++) {
                if (!has(p)) return false;
                for (int q = 0; q < p; q++) {
                    if (x(p) == x(q) && y(p) == y(q)) return false;
                }
            }
            return true;
        }

        boolean shows(int fact) {
            int kind = Facts.kindOf(fact);
            int size = Facts.pointsOf(kind);
            for (int i = 0; i < size; i++) {
                if (!has(Facts.pointOf(fact, i))) return false;
            }
            int a = Facts.pointOf(fact, 0);
            int b = Facts.pointOf(fact, 1);
            int c = Facts.pointOf(fact, 2);
            int d = size == 4 ? Facts.pointOf(fact, 3) : c;
            switch (kind) {
                case COL: return cross(a, b, a, c) == 0;
                case PAR: return cross(a, b, c, d) == 0;
                case PERP: return dot(a, b, c, d) == 0;
                case EQ: return dot(a, b, a, b) == dot(c, d, c, d);
                case MID: return x(a) + x(a) == x(b) + x(c) && y(a) + y(a) == y(b) + y(c);
                case CIRC: return onCircle(a, b, c, d);
                default: return cross(a, b, a, c) == 0 && dot(a, b, a, c) < 0;
            }
        }

        /** Of the way from a to b and the way from c to d. */
        private long cross(int a, int b, int c, int d) {
            return (long) (x(b) - x(a)) * (y(d) - y(c)) - (long) (y(b) - y(a)) * (x(d) - x(c));
        }

        private long dot(int a, int b, int c, int d) {
            return (long) (x(b) - x(a)) * (x(d) - x(c)) + (long) (y(b) - y(a)) * (y(d) - y(c));
        }

        private boolean onCircle(int a, int b, int c, int d) {
            long bc = cross(d, b, d, c);
            long ca = cross(d, c, d, a);
            long ab = cross(d, a, d, b);
            if (bc == 0 || ca == 0 || ab == 0 || cross(a, b, a, c) == 0) return false;
            return dot(d, a, d, a) * bc + dot(d, b, d, b) * ca + dot(d, c, d, c) * ab == 0;
        }
    }

    /** The bytes typed, and the token that was read last. */
    private static final class Tape {
        static final int END = 0, WORD = 1, POINT = 2, NUMBER = 3, BAD = 4;

        private final int[] bytes = new int[MOST_BYTES];
        int count;
        private int at;
        int start;
        int sort;
        long value;

        void append(long w, int n) {
            for (int i = n - 1; i >= 0 && count >= 0 && count < MOST_BYTES; i--) {
                bytes[count] = (int) (w >>> (8 * i) & 255);
                count++;
            }
        }

        int empty() {
            int former = count;
            count = 0;
            return former;
        }

        void rewind() {
            at = 0;
        }

        void next() {
            while (at < count && at < MOST_BYTES && bytes[at] == ' ') at++;
            start = at;
            while (at < count && at < MOST_BYTES && bytes[at] != ' ') at++;
            int size = at - start;
            value = 0;
            if (size == 0) sort = END;
            else if (size <= 8 && allIn('a', 'z')) sort = WORD;
            else if (size == 1 && allIn('A', 'G')) sort = POINT;
            else if (size <= 3 && allIn('0', '9')) sort = NUMBER;
            else sort = BAD;
            if (sort == WORD) readValue(0, 256);
            if (sort == POINT) readValue('A', 1);
            if (sort == NUMBER) readValue('0', 10);
        }

        private boolean allIn(int first, int last) {
            for (int i = start; i < at && i < MOST_BYTES; i++) {
                if (bytes[i] < first || bytes[i] > last) return false;
            }
            return true;
        }

        /** A word, too, is a number, of base 256: words are the same if these are. */
        private void readValue(int zero, int base) {
            for (int i = start; i < at && i < MOST_BYTES; i++) value = value * base + (bytes[i] - zero);
        }
    }

    /** The words of both languages; a word of up to eight letters is one long. */
    private static final class Words {
        private static final String FIRST = "line par perp eq mid circ btw given seen by of";

        private final long[] words = new long[LANGUAGES * WORDS];
        int atHand;

        Words() {
            int which = 0;
            for (int i = 0; i < FIRST.length() && which < WORDS; i++) {
                char letter = FIRST.charAt(i);
                if (letter == ' ') which++;
                else words[which] = words[which] << 8 | letter;
            }
            System.arraycopy(words, 0, words, WORDS, WORDS);
        }

        int find(int language, long word) {
            for (int which = 0; which < WORDS; which++) {
                int at = language * WORDS + which;
                if (at >= 0 && at < words.length && words[at] == word) return which;
            }
            return NO;
        }

        void set(int language, int which, long word) {
            int at = language * WORDS + which;
            if (at >= 0 && at < words.length) words[at] = word;
        }
    }

    /** A row of a proof, with what the latest grading says of it. */
    private static final class Row {
        int fact;
        int reason;
        int rule = NONE;
        int ofCount;
        private final int[] of = new int[MOST_OF];

        int turn;
        int verdict;
        int way;
        int gap;
        int counter = NONE;

        int ofAt(int i) {
            return i < 0 || i >= ofCount || i >= MOST_OF ? 0 : of[i];
        }

        void restart(int newFact) {
            fact = newFact;
            reason = 0;
            rule = NONE;
            ofCount = 0;
        }

        void addOf(int number) {
            if (ofCount < 0 || ofCount >= MOST_OF) return;
            of[ofCount] = number;
            ofCount++;
        }

        void ungrade() {
            turn = 0;
            verdict = WRONG;
            way = WAY_NONE;
            gap = 0;
            counter = NONE;
        }

        void take(Row other) {
            fact = other.fact;
            reason = other.reason;
            rule = other.rule;
            ofCount = other.ofCount;
            System.arraycopy(other.of, 0, of, 0, MOST_OF);
        }
    }

    /** What was told: points, figures, rows and the goal. */
    private static final class Sheet {
        int pointCount;
        int figureCount;
        int rowCount;
        boolean hasGoal;
        final Row aimed = new Row();
        private final Row[] rows = new Row[MOST_ROWS];
        private final Figure[] figures = new Figure[MOST_FIGURES];

        Sheet() {
            for (int i = 0; i < MOST_ROWS; i++) rows[i] = new Row();
            for (int i = 0; i < MOST_FIGURES; i++) figures[i] = new Figure();
        }

        boolean hasPoint(int p) {
            return p >= 0 && p < pointCount;
        }

        Figure figureAt(int i) {
            return i < 0 || i >= figureCount || i >= MOST_FIGURES ? null : figures[i];
        }

        Row rowAt(int number) {
            return number < 1 || number > rowCount || number > MOST_ROWS ? null : rows[number - 1];
        }

        Row rowOrGoal(int number) {
            if (number == 0) return hasGoal ? aimed : null;
            return rowAt(number);
        }

        /** NO for what is no fact of the points that there are; where the kind has three, d may be anything. */
        int factOf(int kind, int a, int b, int c, int d) {
            if (kind < 0 || kind >= KINDS) return NO;
            int fourth = Facts.pointsOf(kind) == 4 ? d : 0;
            if (!hasPoint(a) || !hasPoint(b) || !hasPoint(c) || !hasPoint(fourth)) return NO;
            return Facts.number(kind, a, b, c, fourth);
        }

        boolean add(Row draft) {
            if (rowCount < 0 || rowCount >= MOST_ROWS) return false;
            Row next = rows[rowCount];
            if (next == null) return false;
            next.take(draft);
            rowCount++;
            return true;
        }

        void aim(Row draft) {
            aimed.take(draft);
            hasGoal = true;
        }

        boolean isGood(Figure drawn) {
            if (!drawn.allApart(pointCount)) return false;
            for (int number = 1; number <= rowCount; number++) {
                Row told = rowAt(number);
                if (told != null && told.reason == GIVEN && !drawn.shows(told.fact)) return false;
            }
            return true;
        }
    }

    /** Reads the tape; its answers are the place of the first fault, or NO. */
    private static final class Reader {
        private final Sheet sheet;
        private final Tape tape;
        private final Words words;
        private final int[] letters = new int[4];
        final Row draft = new Row();
        long newWord;

        Reader(Sheet sheet, Tape tape, Words words) {
            this.sheet = sheet;
            this.tape = tape;
            this.words = words;
        }

        int readWord() {
            tape.rewind();
            tape.next();
            if (tape.sort != Tape.WORD) return tape.start;
            newWord = tape.value;
            return readEnd();
        }

        int readGoal() {
            int fault = readFact();
            return fault != NO ? fault : readEnd();
        }

        int readRow() {
            int fault = readFact();
            return fault != NO ? fault : readReason();
        }

        private int readEnd() {
            tape.next();
            return tape.sort == Tape.END ? NO : tape.start;
        }

        private int readFact() {
            tape.rewind();
            tape.next();
            int wordStart = tape.start;
            int kind = wordAtHand();
            if (kind < 0 || kind >= KINDS) return wordStart;
            int size = Facts.pointsOf(kind);
            letters[3] = 0;
            for (int i = 0; i < size && i < letters.length; i++) {
                tape.next();
                if (tape.sort != Tape.POINT || tape.value >= sheet.pointCount) return tape.start;
                letters[i] = (int) tape.value;
            }
            int read = Facts.number(kind, letters[0], letters[1], letters[2], letters[3]);
            if (read == NO) return wordStart;
            draft.restart(read);
            return NO;
        }

        /** What the token read last means in the language at hand; NO if it is none of its words. */
        private int wordAtHand() {
            return tape.sort == Tape.WORD ? words.find(words.atHand, tape.value) : NO;
        }

        private int readReason() {
            tape.next();
            if (tape.sort == Tape.END) return NO;
            switch (wordAtHand()) {
                case WORD_GIVEN:
                    draft.reason = GIVEN;
                    return readEnd();
                case WORD_SEEN:
                    draft.reason = SEEN;
                    return readEnd();
                case WORD_BY:
                    draft.reason = BY;
                    return readRule();
                default:
                    return tape.start;
            }
        }

        private int readRule() {
            tape.next();
            if (tape.sort != Tape.NUMBER || tape.value >= RULES) return tape.start;
            draft.rule = (int) tape.value;
            tape.next();
            if (tape.sort == Tape.END) return NO;
            return wordAtHand() == WORD_OF ? readRowsOf() : tape.start;
        }

        private int readRowsOf() {
            for (int i = 0; i < MOST_OF; i++) {
                tape.next();
                if (i > 0 && tape.sort == Tape.END) return NO;
                if (tape.sort != Tape.NUMBER || tape.value < 1) return tape.start;
                draft.addOf((int) tape.value);
            }
            return readEnd();
        }
    }

    /**
     * Levels of all facts from those assumed. A fact waits in the row of its level until what follows
     * from it and the others has been offered; a fact that falls to a lower level waits again there,
     * so assumptions may be added between two spreads without starting anew.
     */
    private static final class Levels {
        static final int FAR = DEEPEST + 1;

        private final int[] levels = new int[Facts.SIZE];
        private final int[][] waiting = new int[DEEPEST][Facts.REAL];
        private final int[] waits = new int[DEEPEST];
        private int points;
        private int pairs;
        private int now;

        void clear(int pointCount) {
            points = pointCount;
            pairs = pointCount * (pointCount - 1) / 2;
            for (int i = 0; i < Facts.SIZE; i++) levels[i] = FAR;
            for (int n = 0; n < DEEPEST; n++) waits[n] = 0;
        }

        int at(int fact) {
            return fact < 0 || fact >= Facts.SIZE ? FAR : levels[fact];
        }

        /** A fact of level 0 is one that follows from what lies a level below all. */
        void assume(int fact) {
            now = -1;
            offer(fact, -1);
        }

        int countAt(int n) {
            int count = 0;
            for (int i = 0; i < Facts.SIZE; i++) {
                if (levels[i] == n) count++;
            }
            return count;
        }

        /** Makes all levels up to the depth right; those above it may still fall. */
        void spread(int depth) {
            for (int n = 0; n < depth && n < DEEPEST; n++) {
                now = n;
                for (int i = 0; i < waits[n] && i < Facts.REAL; i++) {
                    int fact = waiting[n][i];
                    if (at(fact) == n) use(fact);
                }
                waits[n] = 0;
            }
        }

        /** A fact that follows from the one in use and others of which the highest level is told. */
        private void offer(int fact, int other) {
            int level = 1 + (now < other ? other : now);
            if (fact < 0 || fact >= Facts.SIZE || level >= levels[fact]) return;
            levels[fact] = level;
            if (level < 0 || level >= DEEPEST) return;
            int behind = waits[level];
            if (behind < 0 || behind >= Facts.REAL) return;
            waiting[level][behind] = fact;
            waits[level] = behind + 1;
        }

        private void use(int fact) {
            switch (Facts.kindOf(fact)) {
                case COL: useLine(fact - Facts.COL_AT); break;
                case PAR: usePar(fact); break;
                case PERP: usePerp(fact); break;
                case EQ: useEq(fact); break;
                case MID: useMid(fact - Facts.MID_AT); break;
                case CIRC: useCircle(fact - Facts.CIRC_AT); break;
                default: useBtw(fact - Facts.BTW_AT);
            }
        }

        private void usePar(int fact) {
            int q = Facts.greatPair(fact);
            int p = Facts.lessPair(fact, q);
            chain(p, q, Facts.PAR_AT, Facts.PAR_AT);
            chain(q, p, Facts.PAR_AT, Facts.PAR_AT);
            chain(p, q, Facts.PERP_AT, Facts.PERP_AT);
            chain(q, p, Facts.PERP_AT, Facts.PERP_AT);
            slide(Facts.PAR_AT, p, q);
            slide(Facts.PAR_AT, q, p);
            int mask = maskOf(p) | maskOf(q);
            if (Integer.bitCount(mask) == 3) offer(Facts.COL_AT + mask, now);
        }

        private void usePerp(int fact) {
            int q = Facts.greatPair(fact);
            int p = Facts.lessPair(fact, q);
            chain(p, q, Facts.PERP_AT, Facts.PAR_AT);
            chain(q, p, Facts.PERP_AT, Facts.PAR_AT);
            chain(p, q, Facts.PAR_AT, Facts.PERP_AT);
            chain(q, p, Facts.PAR_AT, Facts.PERP_AT);
            slide(Facts.PERP_AT, p, q);
            slide(Facts.PERP_AT, q, p);
            standOnMiddle(Facts.low(p), Facts.high(p), q);
            standOnMiddle(Facts.high(p), Facts.low(p), q);
            standOnMiddle(Facts.low(q), Facts.high(q), p);
            standOnMiddle(Facts.high(q), Facts.low(q), p);
        }

        /** Rules 0, 1, 2, 7: p goes with q in use, q with r by another fact, so p goes with r. */
        private void chain(int p, int q, int via, int gives) {
            for (int r = 0; r < pairs; r++) {
                int other = at(Facts.ofPairs(via, q, r));
                if (other < DEEPEST) offer(Facts.ofPairs(gives, p, r), other);
            }
        }

        /** Rules 14 and 16: an end of p slides along the line of p. */
        private void slide(int base, int p, int q) {
            int a = Facts.low(p);
            int b = Facts.high(p);
            for (int c = 0; c < points; c++) {
                int other = at(Facts.ofLine(a, b, c));
                if (other >= DEEPEST) continue;
                offer(Facts.ofPairs(base, Facts.pair(a, c), q), other);
                offer(Facts.ofPairs(base, Facts.pair(b, c), q), other);
            }
        }

        /** Rule 11 with PERP mp ab in use. */
        private void standOnMiddle(int m, int p, int ab) {
            int a = Facts.low(ab);
            int b = Facts.high(ab);
            int other = at(Facts.ofMiddle(Facts.MID_AT, m, a, b));
            if (other < DEEPEST) offer(Facts.ofPairs(Facts.EQ_AT, Facts.pair(p, a), Facts.pair(p, b)), other);
        }

        private void useEq(int fact) {
            int q = Facts.greatPair(fact);
            int p = Facts.lessPair(fact, q);
            chain(p, q, Facts.EQ_AT, Facts.EQ_AT);
            chain(q, p, Facts.EQ_AT, Facts.EQ_AT);
            int shared = maskOf(p) & maskOf(q);
            if (shared == 0) return;
            int s = Integer.numberOfTrailingZeros(shared);
            int a = Integer.numberOfTrailingZeros(maskOf(p) ^ shared);
            int b = Integer.numberOfTrailingZeros(maskOf(q) ^ shared);
            int line = at(Facts.ofLine(s, a, b));
            if (line < DEEPEST) offer(Facts.ofMiddle(Facts.MID_AT, s, a, b), line);
            standUpright(s, a, b);
            goRound(s, a, b);
            goRound(s, b, a);
        }

        /** Rule 10 with EQ ap bp in use. */
        private void standUpright(int p, int a, int b) {
            for (int q = 0; q < points; q++) {
                int other = at(Facts.ofPairs(Facts.EQ_AT, Facts.pair(a, q), Facts.pair(b, q)));
                if (other < DEEPEST) offer(Facts.ofPairs(Facts.PERP_AT, Facts.pair(a, b), Facts.pair(p, q)), other);
            }
        }

        /** Rule 12 with EQ oa ob in use, first or last in the row of three (then d is beside c) or amid (beside a). */
        private void goRound(int o, int a, int b) {
            for (int c = 0; c < points; c++) {
                int second = at(Facts.ofPairs(Facts.EQ_AT, Facts.pair(o, b), Facts.pair(o, c)));
                if (second >= DEEPEST) continue;
                for (int d = 0; d < points; d++) {
                    int byC = at(Facts.ofPairs(Facts.EQ_AT, Facts.pair(o, c), Facts.pair(o, d)));
                    int byA = at(Facts.ofPairs(Facts.EQ_AT, Facts.pair(o, a), Facts.pair(o, d)));
                    int third = byC < byA ? byC : byA;
                    if (third < DEEPEST) offer(Facts.ofCircle(a, b, c, d), second < third ? third : second);
                }
            }
        }

        private void useLine(int mask) {
            for (int c = 0; c < points; c++) {
                if ((mask >> c & 1) == 0) {
                    lengthen(mask, 1 << c);
                } else {
                    int left = mask ^ 1 << c;
                    int a = Integer.numberOfTrailingZeros(left);
                    int b = Integer.numberOfTrailingZeros(left & left - 1);
                    int equal = at(Facts.ofPairs(Facts.EQ_AT, Facts.pair(c, a), Facts.pair(c, b)));
                    if (equal < DEEPEST) offer(Facts.ofMiddle(Facts.MID_AT, c, a, b), equal);
                    slideOver(Facts.PAR_AT, a, b, c);
                    slideOver(Facts.PERP_AT, a, b, c);
                }
            }
        }

        /** Rule 9: the line in use and a point beyond it that lies on a line with two of its points. */
        private void lengthen(int mask, int beyond) {
            for (int c = 0; c < points; c++) {
                int shared = mask & ~(1 << c);
                if (shared == mask) continue;
                int other = at(Facts.COL_AT + (shared | beyond));
                if (other >= DEEPEST) continue;
                int one = shared & -shared;
                offer(Facts.COL_AT + (mask ^ one | beyond), other);
                offer(Facts.COL_AT + (mask ^ shared ^ one | beyond), other);
            }
        }

        /** Rules 14 and 16 with COL a b c in use, of whose points a and b are the pair told. */
        private void slideOver(int base, int a, int b, int c) {
            int ab = Facts.pair(a, b);
            for (int q = 0; q < pairs; q++) {
                int other = at(Facts.ofPairs(base, ab, q));
                if (other >= DEEPEST) continue;
                offer(Facts.ofPairs(base, Facts.pair(a, c), q), other);
                offer(Facts.ofPairs(base, Facts.pair(b, c), q), other);
            }
        }

        private void useBtw(int place) {
            int m = place / Facts.PAIRS;
            int ab = place % Facts.PAIRS;
            offer(Facts.ofLine(m, Facts.low(ab), Facts.high(ab)), now);
        }

        private void useMid(int place) {
            int m = place / Facts.PAIRS;
            int ab = place % Facts.PAIRS;
            int a = Facts.low(ab);
            int b = Facts.high(ab);
            offer(Facts.ofPairs(Facts.EQ_AT, Facts.pair(m, a), Facts.pair(m, b)), now);
            offer(Facts.ofMiddle(Facts.BTW_AT, m, a, b), now);
            joinMiddles(m, a, b);
            joinMiddles(m, b, a);
            for (int p = 0; p < points; p++) {
                int upright = at(Facts.ofPairs(Facts.PERP_AT, Facts.pair(m, p), ab));
                if (upright < DEEPEST) offer(Facts.ofPairs(Facts.EQ_AT, Facts.pair(p, a), Facts.pair(p, b)), upright);
            }
        }

        /** Rule 6 with MID m ab in use. */
        private void joinMiddles(int m, int a, int b) {
            for (int c = 0; c < points; c++) {
                for (int n = 0; n < points; n++) {
                    int other = at(Facts.ofMiddle(Facts.MID_AT, n, a, c));
                    if (other < DEEPEST) offer(Facts.ofPairs(Facts.PAR_AT, Facts.pair(m, n), Facts.pair(b, c)), other);
                }
            }
        }

        /** Rule 13 with the circle in use: another one has all of its points but d, and e; one point of both may go. */
        private void useCircle(int mask) {
            for (int e = 0; e < points; e++) {
                if ((mask >> e & 1) == 1) continue;
                int five = mask | 1 << e;
                for (int d = 0; d < points; d++) {
                    int common = mask & ~(1 << d);
                    if (common == mask) continue;
                    int other = at(Facts.CIRC_AT + (common | 1 << e));
                    if (other >= DEEPEST) continue;
                    for (int c = 0; c < points; c++) {
                        if ((common >> c & 1) == 1) offer(Facts.CIRC_AT + (five ^ 1 << c), other);
                    }
                }
            }
        }

        private static int maskOf(int pair) {
            return 1 << Facts.low(pair) | 1 << Facts.high(pair);
        }
    }

    /**
     * Looks for points for the letters of a rule, the least ones first, by which a fact follows: from
     * some facts that were listed, or from all of lesser levels.
     */
    private static final class Search {
        // Part by part: a kind, the letters of its points (the fourth does not matter where there are
        // three), and the letter with which it is whole. The last part of a rule is what follows.
        private static final int PART = 6, WHOLE_WITH = 5;
        private static final int[] PARTS = {
            PAR, 0, 1, 2, 3, 3, PAR, 2, 3, 4, 5, 5, PAR, 0, 1, 4, 5, 5,
            PERP, 0, 1, 2, 3, 3, PERP, 2, 3, 4, 5, 5, PAR, 0, 1, 4, 5, 5,
            PERP, 0, 1, 2, 3, 3, PAR, 2, 3, 4, 5, 5, PERP, 0, 1, 4, 5, 5,
            MID, 0, 1, 2, 0, 2, EQ, 0, 1, 0, 2, 2,
            MID, 0, 1, 2, 0, 2, BTW, 0, 1, 2, 0, 2,
            BTW, 0, 1, 2, 0, 2, COL, 0, 1, 2, 0, 2,
            MID, 0, 1, 2, 0, 2, MID, 3, 1, 4, 0, 4, PAR, 0, 3, 2, 4, 4,
            EQ, 0, 1, 2, 3, 3, EQ, 2, 3, 4, 5, 5, EQ, 0, 1, 4, 5, 5,
            PAR, 0, 1, 0, 2, 2, COL, 0, 1, 2, 0, 2,
            COL, 0, 1, 2, 0, 2, COL, 0, 1, 3, 0, 3, COL, 0, 2, 3, 0, 3,
            EQ, 0, 1, 2, 1, 2, EQ, 0, 3, 2, 3, 3, PERP, 0, 2, 1, 3, 3,
            MID, 0, 1, 2, 0, 2, PERP, 0, 3, 1, 2, 3, EQ, 3, 1, 3, 2, 3,
            EQ, 0, 1, 0, 2, 2, EQ, 0, 2, 0, 3, 3, EQ, 0, 3, 0, 4, 4, CIRC, 1, 2, 3, 4, 4,
            CIRC, 0, 1, 2, 3, 3, CIRC, 0, 1, 2, 4, 4, CIRC, 0, 1, 3, 4, 4,
            COL, 0, 1, 2, 0, 2, PAR, 0, 1, 3, 4, 4, PAR, 0, 2, 3, 4, 4,
            COL, 0, 1, 2, 0, 2, EQ, 0, 1, 0, 2, 2, MID, 0, 1, 2, 0, 2,
            PERP, 0, 1, 2, 3, 3, COL, 0, 1, 4, 0, 4, PERP, 0, 4, 2, 3, 4,
        };
        private static final int[] FIRST_PART = {0, 3, 6, 9, 11, 13, 15, 18, 21, 23, 26, 29, 32, 36, 39, 42, 45, 48};
        private static final int MOST_LETTERS = 6;
        // Six letters of seven points have far fewer stands than this.
        private static final int MOST_STEPS = 1000000;

        private final Levels levels;
        private final int[] letters = new int[MOST_LETTERS];
        private final int[] listed = new int[MOST_OF];
        private int listedCount;
        // For each letter the points that it may stand for: only those of the fact, where it is in what follows.
        private final int[] allowed = new int[MOST_LETTERS];
        private int points;
        private int target;
        // Premises are of lesser levels than this; 0: they are listed ones.
        private int below;
        private int firstPart;
        private int conclusion;

        Search(Levels levels) {
            this.levels = levels;
        }

        void restart(int pointCount) {
            points = pointCount;
            listedCount = 0;
        }

        void list(int fact) {
            if (listedCount < 0 || listedCount >= MOST_OF) return;
            listed[listedCount] = fact;
            listedCount++;
        }

        boolean followsFromListed(int fact, int rule) {
            target = fact;
            below = 0;
            return findLetters(rule);
        }

        /** By the least rule and letters that give the fact: the first premise of the greatest level, or NO. */
        int premiseOf(int fact) {
            target = fact;
            below = levels.at(fact);
            for (int rule = 0; rule < RULES; rule++) {
                if (findLetters(rule)) return greatestPremise();
            }
            return NO;
        }

        private int greatestPremise() {
            int best = NO;
            for (int part = firstPart; part < conclusion; part++) {
                int premise = factAt(part);
                if (best == NO || levels.at(premise) > levels.at(best)) best = premise;
            }
            return best;
        }

        /** Steps through the letters like the wheels of a counter, past all stands with a part that fails. */
        private boolean findLetters(int rule) {
            if (!isRuleFor(rule)) return false;
            int last = partAt(conclusion, WHOLE_WITH);
            int place = 0;
            letters[0] = -1;
            for (int step = 0; step < MOST_STEPS && place >= 0 && place < MOST_LETTERS; step++) {
                letters[place]++;
                if (letters[place] >= points) {
                    place--;
                } else if ((allowed[place] >> letters[place] & 1) == 1 && partsStand(place)) {
                    if (place == last) return true;
                    place++;
                    if (place < MOST_LETTERS) letters[place] = -1;
                }
            }
            return false;
        }

        /** Makes a rule the one at hand; whether it is there and facts of the target's kind follow by it. */
        private boolean isRuleFor(int rule) {
            if (rule < 0 || rule + 1 >= FIRST_PART.length) return false;
            firstPart = FIRST_PART[rule];
            conclusion = FIRST_PART[rule + 1] - 1;
            int kind = Facts.kindOf(target);
            if (partAt(conclusion, 0) != kind) return false;
            int targetMask = 0;
            for (int i = 0; i < Facts.pointsOf(kind); i++) targetMask |= 1 << Facts.pointOf(target, i);
            for (int i = 0; i < MOST_LETTERS; i++) allowed[i] = -1;
            for (int i = 1; i <= Facts.pointsOf(kind); i++) {
                int letter = partAt(conclusion, i);
                if (letter >= 0 && letter < MOST_LETTERS) allowed[letter] = targetMask;
            }
            return true;
        }

        /** Whether all parts that are whole with the letter at this place are as they must be. */
        private boolean partsStand(int place) {
            for (int part = firstPart; part <= conclusion; part++) {
                if (partAt(part, WHOLE_WITH) != place) continue;
                int fact = factAt(part);
                if (part == conclusion ? fact != target : !isKnown(fact)) return false;
            }
            return true;
        }

        private boolean isKnown(int fact) {
            if (fact == NO) return false;
            if (below > 0) return levels.at(fact) < below;
            for (int i = 0; i < listedCount && i < MOST_OF; i++) {
                if (listed[i] == fact) return true;
            }
            return false;
        }

        private int factAt(int part) {
            int kind = partAt(part, 0);
            return Facts.number(kind, pointAt(part, 1), pointAt(part, 2), pointAt(part, 3), pointAt(part, 4));
        }

        private int pointAt(int part, int i) {
            int letter = partAt(part, i);
            return letter < 0 || letter >= MOST_LETTERS ? 0 : letters[letter];
        }

        private static int partAt(int part, int i) {
            int at = part * PART + i;
            return at < 0 || at >= PARTS.length ? 0 : PARTS[at];
        }
    }

    /** The latest grading. */
    private static final class Grading {
        private final Sheet sheet;
        private final Levels levels = new Levels();
        private final Search search = new Search(levels);
        boolean graded;
        int rightRows;
        int circularRows;
        int seenRows;
        private int goodMask;
        private final int[] circle = new int[MOST_ROWS];
        private int circleCount;
        private int hintGoal = NO;
        private int hintFact = NO;

        Grading(Sheet sheet) {
            this.sheet = sheet;
        }

        void gradeAnew() {
            clear();
            findGoodFigures();
            for (int turn = 1; turn <= sheet.rowCount; turn++) {
                Row next = nextReady();
                if (next == null) break;
                next.turn = turn;
                next.way = quickWay(next);
                if (next.way == WAY_NONE && next.reason == BY) {
                    listRightOf(next);
                    if (search.followsFromListed(next.fact, next.rule)) next.way = WAY_BY;
                }
                if (next.way == WAY_NONE) {
                    levels.spread(LONGEST_GAP);
                    if (levels.at(next.fact) <= LONGEST_GAP) next.way = WAY_FOUND;
                }
                settle(next);
            }
            countCircular();
            findCircle();
            graded = true;
        }

        int firstNotRight() {
            for (int number = 1; number <= sheet.rowCount; number++) {
                Row told = sheet.rowAt(number);
                if (told != null && told.verdict != RIGHT) return number;
            }
            return 0;
        }

        private void clear() {
            rightRows = 0;
            circularRows = 0;
            seenRows = 0;
            circleCount = 0;
            hintGoal = NO;
            levels.clear(sheet.pointCount);
            for (int number = 1; number <= sheet.rowCount; number++) {
                Row told = sheet.rowAt(number);
                if (told != null) told.ungrade();
            }
        }

        private void findGoodFigures() {
            goodMask = 0;
            for (int i = 0; i < sheet.figureCount; i++) {
                Figure drawn = sheet.figureAt(i);
                if (drawn != null && sheet.isGood(drawn)) goodMask |= 1 << i;
            }
        }

        private Row nextReady() {
            for (int number = 1; number <= sheet.rowCount; number++) {
                Row told = sheet.rowAt(number);
                if (told != null && told.turn == 0 && isReady(told)) return told;
            }
            return null;
        }

        private boolean isReady(Row told) {
            for (int i = 0; i < told.ofCount; i++) {
                if (isCircular(told.ofAt(i))) return false;
            }
            return true;
        }

        /** While rows are being graded: whether it still waits; afterwards the ones that wait are circular. */
        private boolean isCircular(int number) {
            Row told = sheet.rowAt(number);
            return told != null && told.turn == 0;
        }

        /** The ways that need no rule: they are asked first. */
        private int quickWay(Row told) {
            if (told.reason == GIVEN) return WAY_GIVEN;
            if (levels.at(told.fact) == 0) return WAY_AGAIN;
            boolean claimsSeen = told.reason == SEEN && Facts.kindOf(told.fact) == BTW && goodMask != 0;
            return claimsSeen && firstAgainst(told.fact) == NONE ? WAY_SEEN : WAY_NONE;
        }

        private void listRightOf(Row told) {
            search.restart(sheet.pointCount);
            for (int i = 0; i < told.ofCount; i++) {
                Row of = sheet.rowAt(told.ofAt(i));
                if (of != null && of.verdict == RIGHT) search.list(of.fact);
            }
        }

        private void settle(Row told) {
            if (told.way == WAY_NONE) {
                told.counter = firstAgainst(told.fact);
                told.verdict = told.counter == NONE ? OPEN : WRONG;
                return;
            }
            told.verdict = RIGHT;
            if (told.way == WAY_FOUND) told.gap = levels.at(told.fact);
            if (told.way == WAY_SEEN) seenRows++;
            rightRows++;
            levels.assume(told.fact);
        }

        /** The first good figure in which the fact does not hold, or NONE. */
        private int firstAgainst(int fact) {
            for (int i = 0; i < sheet.figureCount; i++) {
                Figure drawn = sheet.figureAt(i);
                if (drawn != null && (goodMask >> i & 1) == 1 && !drawn.shows(fact)) return i;
            }
            return NONE;
        }

        private void countCircular() {
            for (int number = 1; number <= sheet.rowCount; number++) {
                if (isCircular(number)) circularRows++;
            }
        }

        private void findCircle() {
            int at = 1;
            while (at <= sheet.rowCount && !isCircular(at)) at++;
            if (at > sheet.rowCount) return;
            int length = 0;
            while (length < MOST_ROWS && placeOnPath(at, length) == length) {
                circle[length] = at;
                length++;
                at = firstCircularOf(at);
            }
            cutTail(placeOnPath(at, length), length);
        }

        /** Where a row stands on the path so far; its length, where it does not. */
        private int placeOnPath(int number, int length) {
            for (int i = 0; i < length && i < MOST_ROWS; i++) {
                if (circle[i] == number) return i;
            }
            return length;
        }

        /** A circular row has a circular one among its rows OF, else it would have been graded. */
        private int firstCircularOf(int number) {
            Row told = sheet.rowAt(number);
            if (told == null) return number;
            for (int i = 0; i < told.ofCount; i++) {
                if (isCircular(told.ofAt(i))) return told.ofAt(i);
            }
            return number;
        }

        /** The path up to the row where the circle is entered is no part of the circle. */
        private void cutTail(int entry, int length) {
            circleCount = length - entry;
            for (int i = 0; i < circleCount && entry + i < MOST_ROWS; i++) circle[i] = circle[entry + i];
        }

        int circleAt(int i) {
            return i < 0 || i >= circleCount || i >= MOST_ROWS ? NONE : circle[i];
        }

        int marksGot() {
            int got = 0;
            for (int number = 1; number <= sheet.rowCount; number++) {
                Row told = sheet.rowAt(number);
                if (told == null) continue;
                if (told.way == WAY_BY) got += 2;
                if (told.way == WAY_SEEN || told.way == WAY_FOUND) got += 1;
            }
            Row last = sheet.rowAt(sheet.rowCount);
            boolean done = last != null && sheet.hasGoal && last.verdict == RIGHT && last.fact == sheet.aimed.fact;
            return done ? got + 5 : got;
        }

        int marksAtMost() {
            int most = sheet.hasGoal ? 5 : 0;
            for (int number = 1; number <= sheet.rowCount; number++) {
                Row told = sheet.rowAt(number);
                if (told != null && told.reason != GIVEN) most += 2;
            }
            return most;
        }

        int levelOf(int fact) {
            levels.spread(DEEPEST);
            int level = levels.at(fact);
            return level > DEEPEST ? NONE : level;
        }

        int factsOfLevel(int n) {
            levels.spread(DEEPEST);
            return levels.countAt(n);
        }

        /** The hint towards a fact; NO, if that is there already or too far. */
        int hintTo(int goal) {
            if (hintGoal == goal) return hintFact;
            hintGoal = goal;
            hintFact = levelOf(goal) > 0 ? goal : NO;
            search.restart(sheet.pointCount);
            for (int step = 0; step < DEEPEST && hintFact != NO && levels.at(hintFact) > 1; step++) {
                hintFact = search.premiseOf(hintFact);
            }
            return hintFact;
        }
    }
}
