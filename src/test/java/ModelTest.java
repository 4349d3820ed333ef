import java.util.ArrayList;
import java.util.Collections;
import java.util.List;
import java.util.Map;
import java.util.Random;
import java.util.TreeMap;
import java.util.TreeSet;

/** Long runs, the same ones each time, in which RowGrader must answer all that the Model answers. */
public final class ModelTest {
    private static final int[] ODD = {Integer.MIN_VALUE, -1000001, -1001, -1000, -100, -7, -3, -2, -1, 7, 8, 9, 10, 11, 12, 40, 41, 120, 1000, 1001, Integer.MAX_VALUE};

    private final Random random;
    private final Twins twins;
    private final Model model;
    // What has been seen in all runs: a run of tests that never gets to some corner proves nothing of it.
    private static final Map<String, Integer> SEEN = new TreeMap<>();

    private ModelTest(int run) {
        random = new Random(7919L * run + 13);
        twins = new Twins(run);
        model = twins.model;
    }

    public static void main(String[] args) {
        int runs = args.length > 0 ? Integer.parseInt(args[0]) : 400;
        int from = args.length > 1 ? Integer.parseInt(args[1]) : 0;
        for (int run = from; run < from + runs; run++) new ModelTest(run).play(run);
        System.out.println("ModelTest: " + Twins.asked + " answers, " + Twins.wrong + " not as due; seen " + SEEN);
        boolean lacks = false;
        for (String corner : corners()) {
            if (SEEN.containsKey(corner)) continue;
            lacks = true;
            System.out.println("ModelTest: no run came to " + corner);
        }
        if (Twins.wrong > 0 || lacks && args.length == 0) System.exit(1);
    }

    private static List<String> corners() {
        List<String> corners = new ArrayList<>(List.of("fault", "full rows", "full figures", "full tape", "gap 1", "gap 2", "counter", "tail"));
        for (int i = 0; i < 6; i++) corners.add("way " + i);
        for (int i = 0; i < 3; i++) corners.add("verdict " + i);
        for (int i = 0; i < 17; i++) corners.add("by " + i);
        for (int i = 0; i < 6; i++) corners.add("hint " + i);
        for (int i = 1; i < 4; i++) corners.add("circle of " + i);
        return corners;
    }

    private static void saw(String corner) {
        SEEN.merge(corner, 1, Integer::sum);
    }

    private int pick(int n) {
        return random.nextInt(n);
    }

    private int odd(int usual) {
        return pick(12) == 0 ? ODD[pick(ODD.length)] : pick(usual + 1);
    }

    private void play(int run) {
        if (pick(4) == 0) callAnything(5);
        if (pick(20) == 0) overfeed();
        int n = run % 10 == 0 ? 7 : run % 5 == 0 ? 6 : 2 + pick(4);
        twins.points(n);
        if (pick(3) == 0) renameWords();
        drawFigures(run % 3 == 0 ? 1 : pick(8));
        int plan = pick(10);
        if (plan == 0) callAnything(500);
        else if (plan == 1) typeNonsense();
        else if (plan == 2) fillAll();
        else proveAndGrade();
    }

    private void renameWords() {
        for (int i = 0; i < 8; i++) {
            StringBuilder word = new StringBuilder();
            int size = 1 + pick(8);
            for (int k = 0; k < size; k++) word.append((char) ('a' + pick(3)));
            twins.type(word.toString());
            twins.word(pick(2), pick(11));
        }
        twins.language(pick(2));
    }

    /** Small figures, so that many facts hold in them; some have points apart, some not, some lack a place. */
    private void drawFigures(int count) {
        for (int i = 0; i < count; i++) {
            int figure = twins.figure();
            if (figure == Model.FULL) saw("full figures");
            if (figure < 0) continue;
            int side = 3 + pick(4);
            int far = pick(6) == 0 ? 250 : 1;
            List<Integer> spots = new ArrayList<>();
            for (int s = 0; s < side * side; s++) spots.add(s);
            Collections.shuffle(spots, random);
            for (int p = 0; p < model.points; p++) {
                int spot = pick(40) == 0 ? spots.get(0) : spots.get(p);
                if (pick(60) > 0) twins.place(figure, p, far * (spot % side - side / 2), far * (spot / side - side / 2));
            }
        }
    }

    private void proveAndGrade() {
        int rounds = 1 + pick(4);
        for (int i = 0; i < rounds && twins.calls < 400; i++) {
            if (pick(3) > 0) typeGivens(1 + pick(6));
            if (pick(2) == 0) typeWholeRule(pick(17));
            if (pick(3) == 0) typeSeen();
            typeSteps(1 + pick(9));
            chooseGoal();
            gradeAndAsk();
            if (pick(3) == 0) changeOneThing();
        }
        if (pick(4) == 0) callAnything(30);
    }

    private List<Integer> anyFact() {
        List<List<Integer>> facts = Model.universe(model.points).facts;
        return facts.isEmpty() ? null : facts.get(pick(facts.size()));
    }

    /** Mostly facts that hold in the first figure, so that it stays good. */
    private void typeGivens(int count) {
        for (int i = 0; i < count; i++) {
            List<Integer> fact = anyFact();
            for (int k = 0; k < 400 && fact != null && pick(30) > 0 && !model.figures.isEmpty() && !model.holdsIn(0, fact); k++) fact = anyFact();
            if (fact == null) return;
            typeRow(factText(fact) + " " + model.words[model.atHand][7]);
        }
    }

    /** The premises of a rule as givens, and what follows by it; a fact may be told otherwise, or left out. */
    private void typeWholeRule(int rule) {
        Model.Universe universe = Model.universe(model.points);
        List<Model.Instance> found = new ArrayList<>();
        for (Model.Instance one : universe.instances) {
            if (one.rule() == rule) found.add(one);
        }
        if (found.isEmpty()) return;
        Model.Instance step = found.get(pick(found.size()));
        for (int premise : step.premises()) {
            if (pick(12) > 0) typeRow(factText(universe.facts.get(premise)) + " " + model.words[model.atHand][7]);
        }
        typeRow(factText(universe.facts.get(step.conclusion())) + reason(rule, step.premises()));
    }

    private void typeSeen() {
        List<Integer> fact = anyFact();
        for (int k = 0; k < 400 && fact != null && (fact.get(0) != 6 || pick(5) > 0 && !holdsSomewhere(fact)); k++) fact = anyFact();
        if (fact != null) typeRow(factText(fact) + " " + model.words[model.atHand][8]);
    }

    private boolean holdsSomewhere(List<Integer> fact) {
        return !model.figures.isEmpty() && model.holdsIn(0, fact);
    }

    private void typeRow(String text) {
        twins.type(pick(30) == 0 ? " " + text + "  " : text);
        int number = twins.row();
        if (number == Model.FULL) saw("full rows");
    }

    /** The fact in some order that means the same. */
    private String factText(List<Integer> fact) {
        int kind = fact.get(0);
        int[] turn = Model.ALIKE[kind][pick(Model.ALIKE[kind].length)];
        StringBuilder text = new StringBuilder(model.words[model.atHand][kind]);
        for (int i : turn) text.append(' ').append((char) ('A' + fact.get(i + 1)));
        return text.toString();
    }

    private TreeSet<Integer> factsOfRows() {
        TreeSet<Integer> told = new TreeSet<>();
        for (Model.MRow row : model.rows) told.add(Model.universe(model.points).numberOf(row.fact));
        return told;
    }

    private void typeSteps(int count) {
        Model.Universe universe = Model.universe(model.points);
        for (int i = 0; i < count; i++) {
            int[] levels = universe.levels(factsOfRows(), model.points < 6 ? 3 : 2);
            Model.Instance step = goodStep(universe, levels, pick(3));
            if (step == null) {
                List<Integer> fact = anyFact();
                if (fact != null) typeRow(factText(fact) + reason(pick(17), new int[0]));
                continue;
            }
            String text = factText(universe.facts.get(step.conclusion()));
            typeRow(text + (pick(3) == 0 ? reason(step.rule(), new int[0]) : reason(step.rule(), step.premises())));
        }
    }

    /** Some instance of a rule, its premises not above the level told; rare rules have the same chance as others. */
    private Model.Instance goodStep(Model.Universe universe, int[] levels, int most) {
        int wanted = pick(17);
        List<Model.Instance> found = new ArrayList<>();
        for (Model.Instance one : universe.instances) {
            boolean fits = true;
            for (int premise : one.premises()) fits &= levels[premise] <= most;
            if (fits && (one.rule() == wanted || pick(50) == 0) && found.size() < 300) found.add(one);
        }
        return found.isEmpty() ? null : found.get(pick(found.size()));
    }

    private String reason(int rule, int[] premises) {
        String[] words = model.words[model.atHand];
        int sort = premises.length > 0 ? 9 : pick(10);
        if (sort < 3) return "";
        if (sort < 5) return " " + words[8];
        List<Integer> of = new ArrayList<>();
        for (int premise : premises) {
            for (int i = 0; i < model.rows.size(); i++) {
                if (Model.universe(model.points).numberOf(model.rows.get(i).fact) == premise) of.add(i + 1);
            }
        }
        for (int extra = pick(5) - 3; extra > 0; extra--) of.add(1 + pick(pick(8) == 0 ? 999 : model.rows.size() + 4));
        Collections.shuffle(of, random);
        StringBuilder text = new StringBuilder(" ").append(words[9]).append(' ').append(pick(25) == 0 ? pick(18) : rule);
        for (int i = 0; i < of.size() && i < 6; i++) text.append(i == 0 ? " " + words[10] + " " : " ").append(of.get(i));
        return text.toString();
    }

    private void chooseGoal() {
        if (pick(8) == 0) return;
        Model.Universe universe = Model.universe(model.points);
        int[] levels = universe.levels(factsOfRows(), 5);
        int wanted = pick(7);
        List<Integer> facts = new ArrayList<>();
        for (int i = 0; i < levels.length; i++) {
            if (levels[i] == wanted) facts.add(i);
        }
        List<Integer> fact = facts.isEmpty() ? anyFact() : universe.facts.get(facts.get(pick(facts.size())));
        if (fact == null) return;
        twins.type(factText(fact));
        twins.goal();
    }

    private void gradeAndAsk() {
        twins.grade();
        for (int row = 1; row <= model.rows.size() && twins.calls < 480; row++) askOfRow(row);
        for (int i = 0; i < 6; i++) twins.circle(i);
        if (!model.circle.isEmpty()) saw("circle of " + model.circle.size());
        if (model.rows.stream().filter(row -> row.order == Model.NONE).count() > model.circle.size()) saw("tail");
        for (int what = 0; what < 6; what++) {
            int answer = twins.hint(what);
            if (what == 0) saw("hint " + answer);
            twins.reached(what);
        }
        twins.marks(0);
        twins.marks(1);
        for (int what = 0; what < 8; what++) twins.told(what);
        for (int i = 0; i < 6; i++) twins.level(pick(7), pick(model.points), pick(model.points), pick(model.points), pick(model.points));
    }

    private void askOfRow(int row) {
        saw("verdict " + twins.verdict(row));
        int way = twins.way(row);
        saw("way " + way);
        if (way == 4) saw("by " + twins.fact(row, 6));
        int gap = twins.gap(row);
        if (gap > 0) saw("gap " + gap);
        if (twins.counter(row) >= 0) saw("counter");
        twins.order(row);
        if (pick(4) == 0) twins.fact(row, pick(8));
        if (pick(4) == 0) twins.because(row, pick(6));
    }

    private void changeOneThing() {
        switch (pick(5)) {
            case 0: twins.back(); break;
            case 1: twins.place(odd(5), odd(6), pick(5) - 2, pick(5) - 2); break;
            case 2: twins.figure(); break;
            case 3: chooseGoal(); gradeAndAsk(); break;
            default: twins.points(3);
        }
        twins.verdict(1);
        twins.marks(0);
    }

    private void fillAll() {
        for (int i = 0; i < 43; i++) {
            List<Integer> fact = anyFact();
            if (fact == null) return;
            StringBuilder text = new StringBuilder(factText(fact));
            if (pick(3) > 0) {
                text.append(' ').append(model.words[model.atHand][9]).append(' ').append(pick(17)).append(' ').append(model.words[model.atHand][10]);
                for (int k = 1 + pick(3); k > 0; k--) text.append(' ').append(1 + pick(45));
            }
            typeRow(text.toString());
        }
        gradeAndAsk();
        for (int i = 0; i < 8; i++) twins.back();
        twins.grade();
        for (int i = 0; i < 12; i++) twins.circle(i);
    }

    /** Texts with one thing changed, and bytes of all sorts. */
    private void typeNonsense() {
        for (int i = 0; i < 40 && twins.calls < 440; i++) {
            List<Integer> fact = anyFact();
            if (fact == null) return;
            StringBuilder text = new StringBuilder(factText(fact)).append(reason(pick(17), new int[] {pick(9)}));
            int changes = pick(3);
            for (int k = 0; k < changes && text.length() > 1; k++) {
                int at = pick(text.length());
                char other = "ABCDEFGH019 abz@[`{/:\0\u00ff\u0001\t".charAt(pick(24));
                if (pick(3) == 0) text.deleteCharAt(at);
                else if (pick(2) == 0) text.insert(at, other);
                else text.setCharAt(at, other);
            }
            if (pick(10) == 0) text.append(" 1 2 3 4 5 6 7");
            twins.type(text.toString());
            int answer = pick(5) == 0 ? twins.goal() : pick(6) == 0 ? twins.word(odd(1), odd(10)) : twins.row();
            if (answer <= -100) saw("fault");
        }
        gradeAndAsk();
    }

    private void overfeed() {
        for (int i = 0; i < 16 + pick(3); i++) {
            if (twins.feed(random.nextLong(), 7 + pick(2)) == Model.FULL) saw("full tape");
        }
        twins.told(3);
        twins.wipe();
    }

    private void callAnything(int calls) {
        for (int i = 0; i < calls && !twins.isUsedUp(); i++) callOne();
    }

    private void callOne() {
        switch (pick(30)) {
            case 0: twins.points(odd(8)); break;
            case 1: twins.figure(); break;
            case 2: case 3: twins.place(odd(5), odd(6), odd(4), odd(4)); break;
            case 4: twins.placed(odd(5), odd(6), odd(2)); break;
            case 5: twins.good(odd(5)); break;
            case 6: twins.holds(odd(5), odd(6), odd(6), odd(6), odd(6), odd(6)); break;
            case 7: twins.feed(random.nextLong(), odd(8)); break;
            case 8: if (pick(3) == 0) twins.wipe(); break;
            case 9: twins.language(odd(2)); break;
            case 10: twins.word(odd(1), odd(10)); break;
            case 11: twins.row(); break;
            case 12: twins.goal(); break;
            case 13: twins.back(); break;
            case 14: twins.fact(odd(5), odd(8)); break;
            case 15: twins.because(odd(5), odd(5)); break;
            case 16: twins.alike(odd(5), odd(6), odd(6), odd(6), odd(6), odd(6)); break;
            case 17: twins.grade(); break;
            case 18: twins.verdict(odd(5)); break;
            case 19: twins.way(odd(5)); break;
            case 20: twins.gap(odd(5)); break;
            case 21: twins.counter(odd(5)); break;
            case 22: twins.circle(odd(3)); break;
            case 23: twins.order(odd(5)); break;
            case 24: twins.marks(odd(2)); break;
            case 25: twins.hint(odd(6)); break;
            case 26: twins.level(odd(6), odd(6), odd(6), odd(6), odd(6)); break;
            case 27: twins.reached(odd(6)); break;
            case 28: twins.told(odd(8)); break;
            default: typeSomething();
        }
    }

    private void typeSomething() {
        List<Integer> fact = model.points == 0 ? null : anyFact();
        twins.type(fact == null ? "line A B C" : factText(fact));
        if (pick(2) == 0) twins.type(pick(2) == 0 ? " given" : " by 3 of 1");
        if (pick(5) == 0) twins.goal();
        else twins.row();
    }
}
