import java.util.ArrayList;
import java.util.List;

/** What the tests do again and again with a mediator. */
final class Setups {
    static final int ALL = 15;

    private Setups() {
    }

    /** A mediator in which every relation can be asked with every pattern. */
    static ViewMediator open() {
        ViewMediator m = new ViewMediator();
        for (int r = 0; r < 4; r++) {
            m.allow(r, ALL);
        }
        return m;
    }

    /** Begins a rule; its atoms are given as relation, term, term after one another. */
    static void rule(ViewMediator m, int view, int... atoms) {
        m.rule(view);
        for (int i = 0; i < atoms.length; i += 3) {
            m.atom(view, atoms[i], atoms[i + 1], atoms[i + 2]);
        }
    }

    /** Makes the query anew; its atoms are given as view, term, term after one another. */
    static void query(ViewMediator m, int... atoms) {
        m.clear();
        for (int i = 0; i < atoms.length; i += 3) {
            m.ask(atoms[i], atoms[i + 1], atoms[i + 2]);
        }
    }

    static void facts(ViewMediator m, int relation, int... pairs) {
        for (int i = 0; i < pairs.length; i += 2) {
            m.fact(relation, pairs[i], pairs[i + 1]);
        }
    }

    /** All results, by asking for one after the other until there is none. */
    static List<Integer> results(ViewMediator m) {
        List<Integer> all = new ArrayList<>();
        for (int i = 0; i <= 256 && m.result(i) != -1; i++) {
            all.add(m.result(i));
        }
        return all;
    }

    /** The rows of a relation as results; the rules of view 0, the query and the patterns are overwritten. */
    static List<Integer> rows(ViewMediator m, int relation) {
        m.allow(relation, ALL);
        m.forget(0);
        rule(m, 0, relation, 16, 17);
        query(m, 0, 16, 17);
        m.run();
        return results(m);
    }

    /** The atoms of a disjunct as "relation(term,term):pattern", in its order. */
    static String shape(ViewMediator m, int disjunct) {
        StringBuilder text = new StringBuilder();
        for (int i = 0; i < m.size(disjunct); i++) {
            int code = m.atomAt(disjunct, i);
            text.append(i == 0 ? "" : " ").append(code / 4096).append('(').append(code / 64 % 64).append(',')
                    .append(code % 64).append("):").append(m.patternAt(disjunct, i));
        }
        return text.toString();
    }

    static String shapes(ViewMediator m) {
        StringBuilder text = new StringBuilder();
        for (int i = 0; i < m.disjuncts(); i++) {
            text.append(i == 0 ? "" : " | ").append(shape(m, i));
        }
        return text.toString();
    }
}
