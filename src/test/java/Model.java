import java.util.ArrayList;
import java.util.HashMap;
import java.util.LinkedHashSet;
import java.util.List;
import java.util.Map;
import java.util.Set;
import java.util.TreeSet;

/**
 * The document's words done in the slowest and plainest way, to be held against the program: results come from what a
 * view and the query mean, not from the unfolding; maps are sought among all ways to send atoms to atoms; roads are
 * kept whole.
 */
final class Model {
    record Atom(int head, int a, int b) {
    }

    record Row(int x, int y) {
    }

    record Request(int relation, int pattern, int x, int y) {
    }

    record Ordered(List<Atom> atoms, List<Integer> patterns, boolean blocked) {
    }

    final List<Set<Row>> rows = new ArrayList<>();
    final int[] allowed = new int[4];
    final int[] failures = new int[4];
    final List<List<List<Atom>>> views = new ArrayList<>();
    final List<Atom> query = new ArrayList<>();

    List<Ordered> left = List.of();
    List<Integer> results = List.of();
    int requests;
    int tries;

    Model() {
        for (int i = 0; i < 4; i++) {
            rows.add(new LinkedHashSet<>());
        }
        for (int i = 0; i < 3; i++) {
            views.add(new ArrayList<>());
        }
    }

    boolean fact(int relation, int x, int y) {
        return in(relation, 3) && in(x, 15) && in(y, 15) && rows.get(relation).size() < 8
                && rows.get(relation).add(new Row(x, y));
    }

    boolean retract(int relation, int x, int y) {
        return in(relation, 3) && rows.get(relation).remove(new Row(x, y));
    }

    boolean allow(int relation, int patterns) {
        if (!in(relation, 3) || !in(patterns, 15)) {
            return false;
        }
        allowed[relation] = patterns;
        return true;
    }

    boolean fail(int relation, int n) {
        if (!in(relation, 3) || !in(n, 9)) {
            return false;
        }
        failures[relation] = n;
        return true;
    }

    int failures(int relation) {
        return in(relation, 3) ? failures[relation] : -1;
    }

    int rule(int view) {
        if (!in(view, 2) || views.get(view).size() == 2) {
            return -1;
        }
        views.get(view).add(new ArrayList<>());
        return views.get(view).size() - 1;
    }

    boolean atom(int view, int relation, int a, int b) {
        if (!in(view, 2) || views.get(view).isEmpty() || !in(relation, 3) || !in(a, 21) || !in(b, 21)) {
            return false;
        }
        List<Atom> rule = views.get(view).get(views.get(view).size() - 1);
        return rule.size() < 2 && rule.add(new Atom(relation, a, b));
    }

    int forget(int view) {
        if (!in(view, 2)) {
            return -1;
        }
        int count = views.get(view).size();
        views.get(view).clear();
        return count;
    }

    boolean ask(int view, int a, int b) {
        return query.size() < 3 && in(view, 2) && in(a, 21) && in(b, 21) && query.add(new Atom(view, a, b));
    }

    void clear() {
        query.clear();
    }

    int run() {
        if (isBad()) {
            return -1;
        }
        results = List.of();
        requests = 0;
        tries = 0;
        left = new ArrayList<>();
        for (List<Atom> atoms : withoutDropped(unfolded())) {
            left.add(ordered(atoms));
        }
        for (Ordered disjunct : left) {
            if (disjunct.blocked()) {
                return -2;
            }
        }
        if (!asked()) {
            return -3;
        }
        results = meant();
        return results.size();
    }

    int result(int i) {
        return in(i, results.size() - 1) ? results.get(i) : -1;
    }

    int size(int disjunct) {
        return in(disjunct, left.size() - 1) ? left.get(disjunct).atoms().size() : -1;
    }

    int atomAt(int disjunct, int i) {
        if (!in(i, size(disjunct) - 1)) {
            return -1;
        }
        Atom atom = left.get(disjunct).atoms().get(i);
        return (atom.head() * 64 + atom.a()) * 64 + atom.b();
    }

    int patternAt(int disjunct, int i) {
        return in(i, size(disjunct) - 1) ? left.get(disjunct).patterns().get(i) : -1;
    }

    private static boolean in(int number, int last) {
        return number >= 0 && number <= last;
    }

    private static Set<Integer> terms(List<Atom> atoms) {
        Set<Integer> terms = new TreeSet<>();
        for (Atom atom : atoms) {
            terms.add(atom.a());
            terms.add(atom.b());
        }
        return terms;
    }

    private static boolean isSafe(List<Atom> atoms) {
        return terms(atoms).containsAll(Set.of(16, 17));
    }

    private boolean isBad() {
        boolean bad = query.isEmpty() || !isSafe(query);
        for (Atom atom : query) {
            bad |= views.get(atom.head()).isEmpty();
            for (List<Atom> rule : views.get(atom.head())) {
                bad |= !isSafe(rule);
            }
        }
        return bad;
    }

    /** The results as the document says what is meant, from pairs alone. */
    private List<Integer> meant() {
        List<Set<Row>> pairs = new ArrayList<>();
        for (List<List<Atom>> view : views) {
            Set<Row> all = new LinkedHashSet<>();
            for (List<Atom> rule : view) {
                all.addAll(solutions(rule, rows));
            }
            pairs.add(all);
        }
        Set<Integer> numbers = new TreeSet<>();
        for (Row row : solutions(query, pairs)) {
            numbers.add(row.x() * 16 + row.y());
        }
        return new ArrayList<>(numbers);
    }

    private static Set<Row> solutions(List<Atom> atoms, List<Set<Row>> pairs) {
        Set<Row> found = new LinkedHashSet<>();
        for (Map<Integer, Integer> road : roads(atoms, pairs)) {
            if (road.containsKey(16) && road.containsKey(17)) {
                found.add(new Row(road.get(16), road.get(17)));
            }
        }
        return found;
    }

    private static Set<Map<Integer, Integer>> roads(List<Atom> atoms, List<Set<Row>> pairs) {
        Set<Map<Integer, Integer>> roads = new LinkedHashSet<>();
        roads.add(new HashMap<>());
        for (Atom atom : atoms) {
            Set<Map<Integer, Integer>> longer = new LinkedHashSet<>();
            for (Map<Integer, Integer> road : roads) {
                for (Row row : pairs.get(atom.head())) {
                    Map<Integer, Integer> next = new HashMap<>(road);
                    if (give(next, atom.a(), row.x()) && give(next, atom.b(), row.y())) {
                        longer.add(next);
                    }
                }
            }
            roads = longer;
        }
        return roads;
    }

    private static boolean give(Map<Integer, Integer> road, int term, int value) {
        if (term < 16) {
            return term == value;
        }
        Integer old = road.putIfAbsent(term, value);
        return old == null || old == value;
    }

    private List<List<Atom>> unfolded() {
        int choices = 1;
        for (Atom atom : query) {
            choices *= views.get(atom.head()).size();
        }
        List<List<Atom>> all = new ArrayList<>();
        for (int choice = 0; choice < choices; choice++) {
            all.add(reduced(unfolded(choice)));
        }
        return all;
    }

    private List<Atom> unfolded(int choice) {
        List<Atom> atoms = new ArrayList<>();
        int rest = choice;
        for (int i = query.size() - 1; i >= 0; i--) {
            Atom asked = query.get(i);
            int rules = views.get(asked.head()).size();
            List<Atom> part = new ArrayList<>();
            for (Atom atom : views.get(asked.head()).get(rest % rules)) {
                part.add(new Atom(atom.head(), changed(atom.a(), asked, i), changed(atom.b(), asked, i)));
            }
            rest /= rules;
            atoms.addAll(0, part);
        }
        return atoms;
    }

    private static int changed(int term, Atom asked, int i) {
        return term < 16 ? term : term == 16 ? asked.a() : term == 17 ? asked.b() : 4 + 4 * i + term;
    }

    /** All ways to send the atoms of one list to atoms of the other are tried, each as a whole. */
    private static boolean mapsInto(List<Atom> from, List<Atom> to) {
        long ways = 1;
        for (int i = 0; i < from.size(); i++) {
            ways *= to.size();
        }
        for (long way = 0; way < ways; way++) {
            if (isMap(from, to, way)) {
                return true;
            }
        }
        return false;
    }

    private static boolean isMap(List<Atom> from, List<Atom> to, long way) {
        int[] images = new int[34];
        long rest = way;
        for (Atom atom : from) {
            Atom image = to.get((int) (rest % to.size()));
            rest /= to.size();
            if (atom.head() != image.head() || !send(images, atom.a(), image.a())
                    || !send(images, atom.b(), image.b())) {
                return false;
            }
        }
        return true;
    }

    /** An image is kept with 1 added, so that 0 says that there is none. */
    private static boolean send(int[] images, int term, int image) {
        if (term <= 17) {
            return term == image;
        }
        if (images[term] == 0) {
            images[term] = image + 1;
        }
        return images[term] == image + 1;
    }

    private static List<Atom> reduced(List<Atom> atoms) {
        List<Atom> now = new ArrayList<>(atoms);
        int i = 0;
        while (i < now.size()) {
            List<Atom> without = new ArrayList<>(now);
            without.remove(i);
            if (mapsInto(now, without)) {
                now = without;
            } else {
                i++;
            }
        }
        return now;
    }

    private static List<List<Atom>> withoutDropped(List<List<Atom>> all) {
        boolean[] dropped = new boolean[all.size()];
        List<List<Atom>> kept = new ArrayList<>();
        for (int i = 0; i < all.size(); i++) {
            for (int j = 0; j < all.size(); j++) {
                dropped[i] |= i != j && !dropped[j] && mapsInto(all.get(j), all.get(i));
            }
            if (!dropped[i]) {
                kept.add(all.get(i));
            }
        }
        return kept;
    }

    private Ordered ordered(List<Atom> atoms) {
        List<Atom> open = new ArrayList<>(atoms);
        List<Atom> order = new ArrayList<>();
        List<Integer> patterns = new ArrayList<>();
        boolean moved = true;
        while (moved) {
            moved = false;
            Set<Integer> known = terms(order);
            for (int i = 0; i < open.size() && !moved; i++) {
                int pattern = pattern(open.get(i), known);
                if (pattern >= 0) {
                    order.add(open.remove(i));
                    patterns.add(pattern);
                    moved = true;
                }
            }
        }
        boolean blocked = !open.isEmpty();
        for (Atom atom : open) {
            order.add(atom);
            patterns.add(-1);
        }
        return new Ordered(order, patterns, blocked);
    }

    private int pattern(Atom atom, Set<Integer> known) {
        int best = -1;
        for (int p = 0; p < 4; p++) {
            boolean first = p == 0 || p == 2 || atom.a() < 16 || known.contains(atom.a());
            boolean second = p < 2 || atom.b() < 16 || known.contains(atom.b());
            if ((allowed[atom.head()] & 1 << p) != 0 && first && second) {
                best = p;
            }
        }
        return best;
    }

    private boolean asked() {
        Set<Request> made = new LinkedHashSet<>();
        for (Ordered disjunct : left) {
            for (int i = 0; i < disjunct.atoms().size(); i++) {
                Set<Request> open = requestsOf(disjunct, i);
                open.removeAll(made);
                int relation = disjunct.atoms().get(i).head();
                if (open.isEmpty()) {
                    continue;
                }
                if (failures[relation] >= 3) {
                    failures[relation] -= 3;
                    tries += 3;
                    return false;
                }
                tries += open.size() + failures[relation];
                failures[relation] = 0;
                requests += open.size();
                made.addAll(open);
            }
        }
        return true;
    }

    private Set<Request> requestsOf(Ordered disjunct, int i) {
        Atom atom = disjunct.atoms().get(i);
        int pattern = disjunct.patterns().get(i);
        Set<Request> wanted = new LinkedHashSet<>();
        for (Map<Integer, Integer> road : roads(disjunct.atoms().subList(0, i), rows)) {
            int x = pattern == 1 || pattern == 3 ? value(road, atom.a()) : -1;
            int y = pattern == 2 || pattern == 3 ? value(road, atom.b()) : -1;
            wanted.add(new Request(atom.head(), pattern, x, y));
        }
        return wanted;
    }

    private static int value(Map<Integer, Integer> road, int term) {
        return term < 16 ? term : road.get(term);
    }
}
