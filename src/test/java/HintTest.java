import java.util.ArrayList;
import java.util.Collections;
import java.util.List;
import java.util.Random;

/** Hints towards many goals, whatever the rules by which they are reached: each must be the Model's. */
public final class HintTest {
    private static final String[] WORDS = {"line", "par", "perp", "eq", "mid", "circ", "btw"};

    public static void main(String[] args) {
        int runs = args.length > 0 ? Integer.parseInt(args[0]) : 500;
        for (int run = 0; run < runs; run++) play(run, new Random(104729L * run + 5));
        // Above all, hints towards goals that are more than one step away must have been asked for.
        System.out.println("HintTest: " + Twins.asked + " answers, " + Twins.wrong + " not as due, " + far + " goals two steps away or more");
        if (Twins.wrong > 0 || far < 2 * runs) System.exit(1);
    }

    private static int far;

    private static void play(int run, Random random) {
        Twins twins = new Twins(run);
        int n = run % 25 == 0 ? 7 : 4 + run % 3;
        twins.points(n);
        Model.Universe universe = Model.universe(n);
        int givens = 2 + random.nextInt(4);
        for (int i = 0; i < givens; i++) typeGiven(twins, universe, random, run % 17);
        twins.grade();
        int[] levels = twins.model.levelsNow();
        List<Integer> goals = new ArrayList<>();
        for (int fact = 0; fact < levels.length; fact++) {
            if (levels[fact] >= 2 && levels[fact] <= 5) goals.add(fact);
        }
        Collections.shuffle(goals, random);
        for (int i = 0; i < goals.size() && twins.calls < 500; i++) {
            twins.type(text(universe.facts.get(goals.get(i))));
            twins.goal();
            far++;
            for (int what = 0; what < 6; what++) twins.hint(what);
        }
    }

    /** A premise of some rule, often of the one told, so that each rule has its turn. */
    private static void typeGiven(Twins twins, Model.Universe universe, Random random, int rule) {
        Model.Instance one = universe.instances.get(random.nextInt(universe.instances.size()));
        for (int i = 0; i < 3000 && one.rule() != rule && random.nextInt(400) > 0; i++) {
            one = universe.instances.get(random.nextInt(universe.instances.size()));
        }
        for (int premise : one.premises()) {
            twins.type(text(universe.facts.get(premise)) + " given");
            twins.row();
        }
    }

    private static String text(List<Integer> fact) {
        StringBuilder text = new StringBuilder(WORDS[fact.get(0)]);
        for (int i = 1; i < fact.size(); i++) text.append(' ').append((char) ('A' + fact.get(i)));
        return text.toString();
    }
}
