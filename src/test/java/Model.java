import java.util.ArrayList;
import java.util.Arrays;
import java.util.HashMap;
import java.util.List;
import java.util.Map;
import java.util.TreeSet;
import java.util.regex.Matcher;
import java.util.regex.Pattern;

/**
 * The document once more, written as naively as can be: facts are rows of numbers, rules are read from
 * the document's own words and tried with all points for all letters. It answers what RowGrader should.
 */
final class Model {
    static final int UNKNOWN = -1, OUTSIDE = -2, STATE = -3, FULL = -4, NONE = -5;

    static final String RULES_TOLD = "0 PAR ab cd, PAR cd ef: PAR ab ef.  1 PERP ab cd, PERP cd ef: PAR ab ef.  "
        + "2 PERP ab cd, PAR cd ef: PERP ab ef.  3 MID m ab: EQ ma mb.  4 MID m ab: BTW m ab.  5 BTW m ab: COL m a b.  "
        + "6 MID m ab, MID n ac: PAR mn bc.  7 EQ ab cd, EQ cd ef: EQ ab ef.  8 PAR ab ac: COL a b c.  "
        + "9 COL a b c, COL a b d: COL a c d.  10 EQ ap bp, EQ aq bq: PERP ab pq.  11 MID m ab, PERP mp ab: EQ pa pb.  "
        + "12 EQ oa ob, EQ ob oc, EQ oc od: CIRC a b c d.  13 CIRC a b c d, CIRC a b c e: CIRC a b d e.  "
        + "14 COL a b c, PAR ab de: PAR ac de.  15 COL m a b, EQ ma mb: MID m ab.  16 PERP ab cd, COL a b e: PERP ae cd.";
    static final List<String> KIND_NAMES = List.of("COL", "PAR", "PERP", "EQ", "MID", "CIRC", "BTW");
    static final int[] SIZES = {3, 4, 4, 4, 3, 4, 3};
    static final int[][][] ALIKE = {
        {{0, 1, 2}, {0, 2, 1}, {1, 0, 2}, {1, 2, 0}, {2, 0, 1}, {2, 1, 0}},
        pairTurns(), pairTurns(), pairTurns(),
        {{0, 1, 2}, {0, 2, 1}},
        allTurnsOfFour(),
        {{0, 1, 2}, {0, 2, 1}},
    };

    static int[][] pairTurns() {
        return new int[][] {{0, 1, 2, 3}, {1, 0, 2, 3}, {0, 1, 3, 2}, {1, 0, 3, 2}, {2, 3, 0, 1}, {3, 2, 0, 1}, {2, 3, 1, 0}, {3, 2, 1, 0}};
    }

    static int[][] allTurnsOfFour() {
        List<int[]> turns = new ArrayList<>();
        for (int i = 0; i < 256; i++) {
            int[] turn = {i / 64, i / 16 % 4, i / 4 % 4, i % 4};
            if (Arrays.stream(turn).distinct().count() == 4) turns.add(turn);
        }
        return turns.toArray(new int[0][]);
    }

    /** A rule: its parts are a kind and the places of its letters; the last one is what follows. */
    record Rule(List<int[]> parts, int letters) {
    }

    /** A rule with points for its letters; premises and conclusion are places in the list of all facts. */
    record Instance(int rule, int[] premises, int conclusion) {
    }

    static final List<Rule> RULES = readRules();
    static final Map<Integer, Universe> UNIVERSES = new HashMap<>();

    static List<Rule> readRules() {
        List<Rule> rules = new ArrayList<>();
        for (String told : RULES_TOLD.split("\\.\\s*")) {
            String text = told.substring(told.indexOf(' ') + 1);
            StringBuilder letters = new StringBuilder();
            List<int[]> parts = new ArrayList<>();
            for (String part : text.split("[,:] ")) parts.add(readPart(part, letters));
            rules.add(new Rule(parts, letters.length()));
        }
        return rules;
    }

    static int[] readPart(String part, StringBuilder letters) {
        String kind = part.substring(0, part.indexOf(' '));
        String points = part.substring(part.indexOf(' ')).replace(" ", "");
        int[] read = new int[points.length() + 1];
        read[0] = KIND_NAMES.indexOf(kind);
        for (int i = 0; i < points.length(); i++) {
            String letter = points.substring(i, i + 1);
            if (letters.indexOf(letter) < 0) letters.append(letter);
            read[i + 1] = letters.indexOf(letter);
        }
        return read;
    }

    static boolean isFact(int kind, int[] p) {
        switch (kind) {
            case 0: case 4: case 5: case 6:
                return Arrays.stream(p).distinct().count() == p.length;
            default:
                boolean same = p[0] == p[2] && p[1] == p[3] || p[0] == p[3] && p[1] == p[2];
                return p[0] != p[1] && p[2] != p[3] && !same;
        }
    }

    /** The kind and the points of the normal form; null for what is no fact. */
    static List<Integer> normal(int kind, int... points) {
        int[] p = Arrays.copyOf(points, SIZES[kind]);
        if (!isFact(kind, p)) return null;
        int[] best = null;
        for (int[] turn : ALIKE[kind]) {
            int[] turned = new int[p.length];
            for (int i = 0; i < p.length; i++) turned[i] = p[turn[i]];
            if (best == null || Arrays.compare(turned, best) < 0) best = turned;
        }
        List<Integer> fact = new ArrayList<>();
        fact.add(kind);
        for (int q : best) fact.add(q);
        return fact;
    }

    /** All facts of so many points, and all that the rules say of them, letters in rising order. */
    static final class Universe {
        final List<List<Integer>> facts = new ArrayList<>();
        final Map<List<Integer>, Integer> numbers = new HashMap<>();
        final List<Instance> instances = new ArrayList<>();
        final Map<Integer, List<Instance>> byConclusion = new HashMap<>();

        Universe(int n) {
            for (int rule = 0; rule < RULES.size(); rule++) fill(rule, new int[RULES.get(rule).letters()], 0, n);
            // Facts that no rule names do not occur: every kind stands in some rule, but small universes may leave some out.
            for (int kind = 0; kind < 7; kind++) {
                for (int i = 0; i < n * n * n * n; i++) {
                    List<Integer> fact = normal(kind, i / (n * n * n), i / (n * n) % n, i / n % n, i % n);
                    if (fact != null) numberOf(fact);
                }
            }
        }

        int numberOf(List<Integer> fact) {
            Integer former = numbers.putIfAbsent(fact, facts.size());
            if (former != null) return former;
            facts.add(fact);
            return facts.size() - 1;
        }

        void fill(int rule, int[] letters, int place, int n) {
            if (place < letters.length) {
                for (int p = 0; p < n; p++) {
                    letters[place] = p;
                    fill(rule, letters, place + 1, n);
                }
                return;
            }
            List<int[]> parts = RULES.get(rule).parts();
            int[] found = new int[parts.size()];
            for (int i = 0; i < found.length; i++) {
                int[] part = parts.get(i);
                int[] p = new int[part.length - 1];
                for (int k = 0; k < p.length; k++) p[k] = letters[part[k + 1]];
                List<Integer> fact = normal(part[0], p);
                if (fact == null) return;
                found[i] = numberOf(fact);
            }
            Instance one = new Instance(rule, Arrays.copyOf(found, found.length - 1), found[found.length - 1]);
            instances.add(one);
            byConclusion.computeIfAbsent(one.conclusion(), i -> new ArrayList<>()).add(one);
        }

        /** Levels up to the depth, 99 for all others. */
        int[] levels(TreeSet<Integer> assumed, int depth) {
            int[] levels = new int[facts.size()];
            Arrays.fill(levels, 99);
            for (int fact : assumed) levels[fact] = 0;
            for (int n = 1; n <= depth; n++) {
                for (Instance one : instances) {
                    if (levels[one.conclusion()] <= n) continue;
                    boolean all = true;
                    for (int premise : one.premises()) all &= levels[premise] < n;
                    if (all) levels[one.conclusion()] = n;
                }
            }
            return levels;
        }
    }

    static Universe universe(int n) {
        return UNIVERSES.computeIfAbsent(n, Universe::new);
    }

    static final class MRow {
        List<Integer> fact;
        int reason;
        int rule = NONE;
        List<Integer> of = new ArrayList<>();
        int verdict, way, gap, counter = NONE, order = NONE;
    }

    int points;
    final List<int[][]> figures = new ArrayList<>();
    final List<MRow> rows = new ArrayList<>();
    MRow aim;
    StringBuilder tape = new StringBuilder();
    int atHand;
    final String[][] words = {
        "line par perp eq mid circ btw given seen by of".split(" "),
        "line par perp eq mid circ btw given seen by of".split(" "),
    };
    boolean graded;
    List<Integer> circle = new ArrayList<>();
    private int[] levelsNow;

    int points(int n) {
        if (n < 2 || n > 7) return OUTSIDE;
        if (!rows.isEmpty() || aim != null || !figures.isEmpty()) return STATE;
        points = n;
        graded = false;
        return 1;
    }

    int figure() {
        if (points == 0) return STATE;
        if (figures.size() == 6) return FULL;
        figures.add(new int[7][]);
        graded = false;
        return figures.size() - 1;
    }

    boolean noFigure(int figure) {
        return figure < 0 || figure >= figures.size();
    }

    boolean noPoint(int p) {
        return p < 0 || p >= points;
    }

    int place(int figure, int p, int x, int y) {
        if (noFigure(figure) || noPoint(p)) return UNKNOWN;
        if (x < -1000 || x > 1000 || y < -1000 || y > 1000) return OUTSIDE;
        figures.get(figure)[p] = new int[] {x, y};
        graded = false;
        return 1;
    }

    int placed(int figure, int p, int side) {
        if (noFigure(figure) || noPoint(p)) return -2001;
        if (side < 0 || side > 1) return -2002;
        int[] place = figures.get(figure)[p];
        return place == null ? -2003 : place[side];
    }

    int good(int figure) {
        return noFigure(figure) ? UNKNOWN : isGood(figure) ? 1 : 0;
    }

    boolean isGood(int figure) {
        int[][] places = figures.get(figure);
        for (int p = 0; p < points; p++) {
            if (places[p] == null) return false;
            for (int q = 0; q < p; q++) {
                if (Arrays.equals(places[p], places[q])) return false;
            }
        }
        for (MRow row : rows) {
            if (row.reason == 1 && !holdsIn(figure, row.fact)) return false;
        }
        return true;
    }

    /** NORMAL, or null: a kind, and points that there are. */
    List<Integer> read(int kind, int a, int b, int c, int d) {
        if (kind < 0 || kind > 6) return null;
        int[] p = Arrays.copyOf(new int[] {a, b, c, d}, SIZES[kind]);
        for (int q : p) {
            if (noPoint(q)) return null;
        }
        return normal(kind, p);
    }

    int holds(int figure, int kind, int a, int b, int c, int d) {
        if (noFigure(figure)) return UNKNOWN;
        List<Integer> fact = read(kind, a, b, c, d);
        return fact == null ? OUTSIDE : holdsIn(figure, fact) ? 1 : 0;
    }

    boolean holdsIn(int figure, List<Integer> fact) {
        long[][] v = new long[fact.size() - 1][];
        for (int i = 0; i < v.length; i++) {
            int[] place = figures.get(figure)[fact.get(i + 1)];
            if (place == null) return false;
            v[i] = new long[] {place[0], place[1]};
        }
        switch (fact.get(0)) {
            case 0: return cross(less(v[1], v[0]), less(v[2], v[0])) == 0;
            case 1: return cross(less(v[1], v[0]), less(v[3], v[2])) == 0;
            case 2: return dot(less(v[1], v[0]), less(v[3], v[2])) == 0;
            case 3: return dot(less(v[1], v[0]), less(v[1], v[0])) == dot(less(v[3], v[2]), less(v[3], v[2]));
            case 4: return 2 * v[0][0] == v[1][0] + v[2][0] && 2 * v[0][1] == v[1][1] + v[2][1];
            case 5: return onOneCircle(v);
            default: return cross(less(v[1], v[0]), less(v[2], v[0])) == 0 && dot(less(v[1], v[0]), less(v[2], v[0])) < 0;
        }
    }

    static long[] less(long[] a, long[] b) {
        return new long[] {a[0] - b[0], a[1] - b[1]};
    }

    static long cross(long[] a, long[] b) {
        return a[0] * b[1] - a[1] * b[0];
    }

    static long dot(long[] a, long[] b) {
        return a[0] * b[0] + a[1] * b[1];
    }

    static boolean onOneCircle(long[][] v) {
        for (int[] t : new int[][] {{0, 1, 2}, {0, 1, 3}, {0, 2, 3}, {1, 2, 3}}) {
            if (cross(less(v[t[1]], v[t[0]]), less(v[t[2]], v[t[0]])) == 0) return false;
        }
        // The four by four determinant of rows x x + y y, x, y, 1, term by term.
        long sum = 0;
        for (int[] turn : allTurnsOfFour()) {
            int turnsBack = 0;
            for (int i = 0; i < 4; i++) {
                for (int k = 0; k < i; k++) {
                    if (turn[k] > turn[i]) turnsBack++;
                }
            }
            long[] one = v[turn[0]];
            long term = dot(one, one) * v[turn[1]][0] * v[turn[2]][1];
            sum += turnsBack % 2 == 0 ? term : -term;
        }
        return sum == 0;
    }

    int feed(long w, int n) {
        if (n < 1 || n > 8) return OUTSIDE;
        if (tape.length() + n > 120) return FULL;
        for (int i = n - 1; i >= 0; i--) tape.append((char) (w >> 8 * i & 255));
        return tape.length();
    }

    int wipe() {
        int former = tape.length();
        tape.setLength(0);
        return former;
    }

    int language(int l) {
        if (l != 0 && l != 1) return UNKNOWN;
        int former = atHand;
        atHand = l;
        return former;
    }

    record Token(int start, String text) {
        boolean isWord() {
            return text.matches("[a-z]{1,8}");
        }

        boolean isNumber(int least, int most) {
            return text.matches("[0-9]{1,3}") && Integer.parseInt(text) >= least && Integer.parseInt(text) <= most;
        }
    }

    /** The tokens, and an empty one at the end, at the length. */
    List<Token> takeTokens() {
        List<Token> tokens = new ArrayList<>();
        Matcher found = Pattern.compile("[^ ]+", Pattern.DOTALL).matcher(tape);
        while (found.find()) tokens.add(new Token(found.start(), found.group()));
        tokens.add(new Token(tape.length(), ""));
        tape.setLength(0);
        return tokens;
    }

    int word(int language, int which) {
        if (language != 0 && language != 1) return UNKNOWN;
        if (which < 0 || which > 10) return OUTSIDE;
        List<Token> tokens = takeTokens();
        if (!tokens.get(0).isWord()) return -100 - tokens.get(0).start();
        if (tokens.size() > 2) return -100 - tokens.get(1).start();
        String word = tokens.get(0).text();
        for (int i = 0; i < 11; i++) {
            if (i != which && words[language][i].equals(word)) return STATE;
        }
        words[language][which] = word;
        return 1;
    }

    /** Reads a fact from the tokens into the row; the place of a fault or -1. */
    int readFact(List<Token> tokens, MRow row) {
        int kind = Arrays.asList(words[atHand]).subList(0, 7).indexOf(tokens.get(0).text());
        if (kind < 0) return tokens.get(0).start();
        int[] p = new int[SIZES[kind]];
        for (int i = 0; i < p.length; i++) {
            Token token = tokens.get(i + 1);
            p[i] = token.text().length() == 1 ? token.text().charAt(0) - 'A' : -1;
            if (noPoint(p[i])) return token.start();
        }
        row.fact = normal(kind, p);
        return row.fact == null ? tokens.get(0).start() : -1;
    }

    int readReason(List<Token> tokens, int at, MRow row) {
        Token first = tokens.get(at);
        if (first.text().isEmpty()) return -1;
        String[] told = words[atHand];
        if (first.text().equals(told[7]) || first.text().equals(told[8])) {
            row.reason = first.text().equals(told[7]) ? 1 : 2;
            Token next = tokens.get(at + 1);
            return next.text().isEmpty() ? -1 : next.start();
        }
        if (!first.text().equals(told[9])) return first.start();
        row.reason = 3;
        Token rule = tokens.get(at + 1);
        if (!rule.isNumber(0, 16)) return rule.start();
        row.rule = Integer.parseInt(rule.text());
        Token of = tokens.get(at + 2);
        if (of.text().isEmpty()) return -1;
        if (!of.text().equals(told[10])) return of.start();
        for (int i = at + 3; ; i++) {
            Token token = tokens.get(i);
            if (token.text().isEmpty() && !row.of.isEmpty()) return -1;
            if (!token.isNumber(1, 999) || row.of.size() == 6) return token.start();
            row.of.add(Integer.parseInt(token.text()));
        }
    }

    int row() {
        if (points == 0) return STATE;
        List<Token> tokens = takeTokens();
        MRow row = new MRow();
        int fault = readFact(tokens, row);
        if (fault < 0) fault = readReason(tokens, 1 + SIZES[row.fact.get(0)], row);
        if (fault >= 0) return -100 - fault;
        if (rows.size() == 40) return FULL;
        rows.add(row);
        graded = false;
        return rows.size();
    }

    int goal() {
        if (points == 0) return STATE;
        List<Token> tokens = takeTokens();
        MRow row = new MRow();
        int fault = readFact(tokens, row);
        if (fault < 0 && tokens.size() > 2 + SIZES[row.fact.get(0)]) fault = tokens.get(1 + SIZES[row.fact.get(0)]).start();
        if (fault >= 0) return -100 - fault;
        aim = row;
        return 1;
    }

    int back() {
        if (rows.isEmpty()) return STATE;
        rows.remove(rows.size() - 1);
        graded = false;
        return rows.size();
    }

    MRow rowAt(int row) {
        return row < 1 || row > rows.size() ? null : rows.get(row - 1);
    }

    MRow rowOrGoal(int row) {
        return row == 0 ? aim : rowAt(row);
    }

    static int pointOrNone(List<Integer> fact, int i) {
        return i < fact.size() ? fact.get(i) : NONE;
    }

    int fact(int row, int what) {
        MRow told = rowOrGoal(row);
        if (told == null) return UNKNOWN;
        switch (what) {
            case 0: case 1: case 2: case 3: case 4: return pointOrNone(told.fact, what);
            case 5: return told.reason;
            case 6: return told.rule;
            case 7: return told.of.size();
            default: return OUTSIDE;
        }
    }

    int because(int row, int i) {
        MRow told = rowAt(row);
        return told == null || i < 0 || i >= told.of.size() ? UNKNOWN : told.of.get(i);
    }

    int alike(int row, int kind, int a, int b, int c, int d) {
        MRow told = rowOrGoal(row);
        if (told == null) return UNKNOWN;
        List<Integer> fact = read(kind, a, b, c, d);
        return fact == null ? OUTSIDE : fact.equals(told.fact) ? 1 : 0;
    }

    TreeSet<Integer> rightFacts() {
        TreeSet<Integer> right = new TreeSet<>();
        for (MRow row : rows) {
            if (row.verdict == 1 && row.order != NONE) right.add(universe(points).numberOf(row.fact));
        }
        return right;
    }

    int grade() {
        graded = true;
        for (MRow row : rows) {
            row.verdict = row.way = row.gap = 0;
            row.counter = row.order = NONE;
        }
        for (int turn = 1; turn <= rows.size(); turn++) {
            MRow next = null;
            for (MRow row : rows) {
                if (next == null && row.order == NONE && row.of.stream().allMatch(i -> rowAt(i) == null || rowAt(i).order != NONE)) next = row;
            }
            if (next != null) judge(next, turn);
        }
        findCircle();
        levelsNow = points == 0 ? new int[0] : universe(points).levels(rightFacts(), 5);
        for (int i = 1; i <= rows.size(); i++) {
            if (rowAt(i).verdict != 1) return i;
        }
        return 0;
    }

    void judge(MRow row, int turn) {
        TreeSet<Integer> right = rightFacts();
        int number = universe(points).numberOf(row.fact);
        row.order = turn;
        int goods = 0;
        int first = NONE;
        for (int i = 0; i < figures.size(); i++) {
            if (!isGood(i)) continue;
            goods++;
            if (first == NONE && !holdsIn(i, row.fact)) first = i;
        }
        if (row.reason == 1) {
            row.way = 1;
        } else if (right.contains(number)) {
            row.way = 2;
        } else if (row.reason == 2 && row.fact.get(0) == 6 && goods > 0 && first == NONE) {
            row.way = 3;
        } else if (row.reason == 3 && followsBy(row, number)) {
            row.way = 4;
        } else {
            int level = universe(points).levels(right, 2)[number];
            if (level <= 2) {
                row.way = 5;
                row.gap = level;
            }
        }
        if (row.way == 0) row.counter = first;
        row.verdict = row.way > 0 ? 1 : first == NONE ? 2 : 0;
    }

    boolean followsBy(MRow row, int number) {
        TreeSet<Integer> known = new TreeSet<>();
        for (int i : row.of) {
            MRow of = rowAt(i);
            if (of != null && of.verdict == 1) known.add(universe(points).numberOf(of.fact));
        }
        for (Instance one : universe(points).byConclusion.getOrDefault(number, List.of())) {
            if (one.rule() == row.rule && Arrays.stream(one.premises()).allMatch(known::contains)) return true;
        }
        return false;
    }

    void findCircle() {
        circle.clear();
        List<Integer> path = new ArrayList<>();
        int at = 1;
        while (at <= rows.size() && rowAt(at).order != NONE) at++;
        if (at > rows.size()) return;
        while (!path.contains(at)) {
            path.add(at);
            for (int of : rowAt(at).of) {
                if (rowAt(of) != null && rowAt(of).order == NONE) {
                    at = of;
                    break;
                }
            }
        }
        circle.addAll(path.subList(path.indexOf(at), path.size()));
    }

    /** what: 0 verdict, 1 way, 2 gap, 3 counter, 4 order. */
    int ofRow(int row, int what) {
        MRow told = rowAt(row);
        if (told == null) return UNKNOWN;
        if (!graded) return STATE;
        return new int[] {told.verdict, told.way, told.gap, told.counter, told.order}[what];
    }

    int circle(int i) {
        if (!graded) return STATE;
        return i < 0 || i >= circle.size() ? NONE : circle.get(i);
    }

    int marks(int side) {
        if (side != 0 && side != 1) return OUTSIDE;
        if (!graded) return STATE;
        int sum = 0;
        for (MRow row : rows) {
            if (side == 1) sum += row.reason == 1 ? 0 : 2;
            else sum += row.way == 4 ? 2 : row.way == 3 || row.way == 5 ? 1 : 0;
        }
        if (aim == null) return sum;
        MRow last = rowAt(rows.size());
        boolean done = last != null && last.verdict == 1 && last.fact.equals(aim.fact);
        return side == 1 || done ? sum + 5 : sum;
    }

    int hint(int what) {
        if (what < 0 || what > 5) return OUTSIDE;
        if (!graded) return STATE;
        if (aim == null) return NONE;
        int fact = universe(points).numberOf(aim.fact);
        int level = levelsNow[fact];
        if (level == 99) return NONE;
        if (what == 0) return level;
        if (level == 0) return NONE;
        while (levelsNow[fact] > 1) fact = stepDown(fact);
        return pointOrNone(universe(points).facts.get(fact), what - 1);
    }

    int stepDown(int fact) {
        for (Instance one : universe(points).byConclusion.getOrDefault(fact, List.of())) {
            int greatest = Arrays.stream(one.premises()).map(i -> levelsNow[i]).max().orElse(99);
            if (greatest >= levelsNow[fact]) continue;
            for (int premise : one.premises()) {
                if (levelsNow[premise] == greatest) return premise;
            }
        }
        throw new IllegalStateException("a fact with a level follows from nothing");
    }

    int level(int kind, int a, int b, int c, int d) {
        List<Integer> fact = read(kind, a, b, c, d);
        if (fact == null) return OUTSIDE;
        if (!graded) return STATE;
        int level = levelsNow[universe(points).numberOf(fact)];
        return level == 99 ? NONE : level;
    }

    int reached(int n) {
        if (n < 0 || n > 5) return OUTSIDE;
        if (!graded) return STATE;
        return (int) Arrays.stream(levelsNow).filter(level -> level == n).count();
    }

    int told(int what) {
        switch (what) {
            case 0: return points;
            case 1: return figures.size();
            case 2: return rows.size();
            case 3: return tape.length();
            case 4: return aim == null ? 0 : 1;
            case 5: return graded ? (int) rows.stream().filter(row -> row.verdict == 1).count() : 0;
            case 6: return graded ? (int) rows.stream().filter(row -> row.order == NONE).count() : 0;
            case 7: return graded ? (int) rows.stream().filter(row -> row.way == 3).count() : 0;
            default: return OUTSIDE;
        }
    }

    int[] levelsNow() {
        return levelsNow;
    }
}
