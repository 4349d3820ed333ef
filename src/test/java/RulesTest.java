import java.util.ArrayList;
import java.util.Arrays;
import java.util.Collections;
import java.util.HashSet;
import java.util.List;
import java.util.Set;

/**
 * Every rule with all points for its letters, of seven points: what follows is right by the rule and its
 * rows, and is found without them, in whichever order the premises come and whatever was asked between.
 */
public final class RulesTest {
    private static final String[] WORDS = {"line", "par", "perp", "eq", "mid", "circ", "btw"};
    private static final Typist TYPIST = new Typist("RulesTest");

    public static void main(String[] args) {
        Model.Universe universe = Model.universe(7);
        Set<List<Integer>> done = new HashSet<>();
        for (Model.Instance one : universe.instances) {
            if (!done.add(essence(one))) continue;
            List<String> premises = new ArrayList<>();
            for (int premise : one.premises()) premises.add(text(universe.facts.get(premise)));
            boolean again = Arrays.stream(one.premises()).anyMatch(premise -> premise == one.conclusion());
            if (again) continue;
            List<Integer> conclusion = universe.facts.get(one.conclusion());
            byTheRule(one.rule(), premises, text(conclusion));
            found(premises, conclusion);
            Collections.reverse(premises);
            found(premises, conclusion);
        }
        TYPIST.end();
    }

    /** Instances that say the same of the same facts are tried once. */
    private static List<Integer> essence(Model.Instance one) {
        List<Integer> essence = new ArrayList<>();
        essence.add(one.rule());
        essence.add(one.conclusion());
        int[] premises = one.premises().clone();
        Arrays.sort(premises);
        for (int premise : premises) essence.add(premise);
        return essence;
    }

    private static String text(List<Integer> fact) {
        StringBuilder text = new StringBuilder(WORDS[fact.get(0)]);
        for (int i = 1; i < fact.size(); i++) text.append(' ').append((char) ('A' + fact.get(i)));
        return text.toString();
    }

    private static void byTheRule(int rule, List<String> premises, String conclusion) {
        RowGrader x = new RowGrader();
        x.points(7);
        StringBuilder reason = new StringBuilder(" by " + rule + " of");
        for (String premise : premises) reason.append(' ').append(Typist.row(x, premise + " given"));
        int last = Typist.row(x, conclusion + reason);
        x.grade();
        TYPIST.due(conclusion + reason + " " + premises, x.way(last), 4);
    }

    /** The conclusion is asked behind each premise, so that what follows from the former ones has been looked for. */
    private static void found(List<String> premises, List<Integer> conclusion) {
        RowGrader x = new RowGrader();
        x.points(7);
        int last = 0;
        for (String premise : premises) {
            Typist.row(x, premise + " given");
            last = Typist.row(x, text(conclusion));
        }
        x.grade();
        boolean known = x.way(last) == 2 || x.way(last) == 5 && x.gap(last) == 1;
        TYPIST.due(text(conclusion) + " from " + premises, known ? 1 : 0, 1);
        RowGrader y = new RowGrader();
        y.points(7);
        for (String premise : premises) Typist.row(y, premise + " given");
        y.grade();
        int fourth = conclusion.size() > 4 ? conclusion.get(4) : 0;
        int level = y.level(conclusion.get(0), conclusion.get(1), conclusion.get(2), conclusion.get(3), fourth);
        TYPIST.due("level of " + text(conclusion) + " from " + premises, level, 1);
    }
}
