import java.util.Arrays;

/** Answers questions about views over relations that lie in other places. */
public final class ViewMediator {
    public static final int BAD = -1;
    public static final int BLOCKED = -2;
    public static final int SILENT = -3;

    private static final int NONE = -1;
    private static final int VALUES = 16;
    /** The variables that stand for the two halves of a result. */
    private static final int P = 16;
    private static final int Q = 17;
    private static final int TERMS = 22;
    private static final int UNFOLDED_TERMS = 34;
    private static final int RELATIONS = 4;
    private static final int ROWS = 8;
    private static final int PATTERNS = 4;
    private static final int MOST_FAILURES = 9;
    private static final int TRIES_UNTIL_SILENT = 3;
    private static final int VIEWS = 3;
    private static final int RULES = 2;
    private static final int RULE_ATOMS = 2;
    private static final int QUERY_ATOMS = 3;
    private static final int DISJUNCT_ATOMS = QUERY_ATOMS * RULE_ATOMS;
    private static final int DISJUNCTS = 8;
    private static final int WANTS_FIRST = 1;
    private static final int WANTS_SECOND = 2;

    private final Relation[] relations = new Relation[RELATIONS];
    private final View[] views = new View[VIEWS];
    private final AtomList query = new AtomList(QUERY_ATOMS);
    private final Plan plan = new Plan();
    private final Asker asker = new Asker();

    public ViewMediator() {
        for (int i = 0; i < RELATIONS; i++) {
            relations[i] = new Relation();
        }
        for (int i = 0; i < VIEWS; i++) {
            views[i] = new View();
        }
    }

    public boolean fact(int relation, int x, int y) {
        return isBelow(relation, RELATIONS) && isBelow(x, VALUES) && isBelow(y, VALUES)
                && relations[relation].put(x, y);
    }

    public boolean retract(int relation, int x, int y) {
        return isBelow(relation, RELATIONS) && relations[relation].takeOut(x, y);
    }

    public boolean allow(int relation, int patterns) {
        if (!isBelow(relation, RELATIONS) || !isBelow(patterns, 1 << PATTERNS)) {
            return false;
        }
        relations[relation].allowed = patterns;
        return true;
    }

    public boolean fail(int relation, int n) {
        if (!isBelow(relation, RELATIONS) || !isBelow(n, MOST_FAILURES + 1)) {
            return false;
        }
        relations[relation].failing = n;
        return true;
    }

    public int failures(int relation) {
        return isBelow(relation, RELATIONS) ? relations[relation].failing : NONE;
    }

    public int rule(int view) {
        return isBelow(view, VIEWS) ? views[view].beginRule() : NONE;
    }

    public boolean atom(int view, int relation, int a, int b) {
        return isBelow(view, VIEWS) && isBelow(relation, RELATIONS) && isBelow(a, TERMS) && isBelow(b, TERMS)
                && views[view].addAtom(relation, a, b);
    }

    public int forget(int view) {
        return isBelow(view, VIEWS) ? views[view].takeRulesOut() : NONE;
    }

    public boolean ask(int view, int a, int b) {
        return isBelow(view, VIEWS) && isBelow(a, TERMS) && isBelow(b, TERMS) && query.add(view, a, b);
    }

    public void clear() {
        query.makeEmpty();
    }

    public int run() {
        if (isBad()) {
            return BAD;
        }
        asker.begin();
        plan.make(query, views, relations);
        if (plan.isBlocked()) {
            return BLOCKED;
        }
        return asker.askAll(plan, relations) ? asker.resultCount : SILENT;
    }

    public int result(int i) {
        return isBelow(i, asker.resultCount) ? asker.results[i] : NONE;
    }

    public int disjuncts() {
        return plan.count;
    }

    public int size(int disjunct) {
        return isBelow(disjunct, plan.count) ? plan.disjuncts[disjunct].atoms.length : NONE;
    }

    public int atomAt(int disjunct, int i) {
        return isBelow(i, size(disjunct)) ? plan.disjuncts[disjunct].atoms.codeAt(i) : NONE;
    }

    public int patternAt(int disjunct, int i) {
        return isBelow(i, size(disjunct)) ? plan.disjuncts[disjunct].patterns[i] : NONE;
    }

    public int requests() {
        return asker.requestCount;
    }

    public int tries() {
        return asker.tryCount;
    }

    private static boolean isBelow(int number, int bound) {
        return 0 <= number && number < bound;
    }

    private boolean isBad() {
        if (!query.isSafe()) {
            return true;
        }
        for (int i = 0; i < query.length; i++) {
            if (!views[query.heads[i]].isSafe()) {
                return true;
            }
        }
        return false;
    }

    private static final class Relation {
        final int[] xs = new int[ROWS];
        final int[] ys = new int[ROWS];
        int rowCount;
        int allowed;
        int failing;

        boolean put(int x, int y) {
            if (rowCount >= ROWS || placeOf(x, y) != NONE) {
                return false;
            }
            xs[rowCount] = x;
            ys[rowCount] = y;
            rowCount++;
            return true;
        }

        boolean takeOut(int x, int y) {
            int place = placeOf(x, y);
            if (place == NONE) {
                return false;
            }
            // Rows are a set, so the last one may fill the gap.
            rowCount--;
            xs[place] = xs[rowCount];
            ys[place] = ys[rowCount];
            return true;
        }

        private int placeOf(int x, int y) {
            for (int i = 0; i < rowCount; i++) {
                if (xs[i] == x && ys[i] == y) {
                    return i;
                }
            }
            return NONE;
        }

        /** The greatest allowed pattern that wants no more than what is known (a pattern itself), or NONE. */
        int greatestPattern(int known) {
            for (int p = PATTERNS - 1; p >= 0; p--) {
                if ((allowed >> p & 1) != 0 && (p & known) == p) {
                    return p;
                }
            }
            return NONE;
        }
    }

    /** Atoms of a rule or a disjunct, whose heads are relations, or of the query, whose heads are views. */
    private static final class AtomList {
        final int[] heads;
        final int[] firsts;
        final int[] seconds;
        int length;

        AtomList(int capacity) {
            heads = new int[capacity];
            firsts = new int[capacity];
            seconds = new int[capacity];
        }

        boolean add(int head, int first, int second) {
            if (length >= heads.length) {
                return false;
            }
            set(length, head, first, second);
            length++;
            return true;
        }

        void makeEmpty() {
            length = 0;
        }

        void takeOut(int place) {
            moveToEnd(place);
            length--;
        }

        private void moveToEnd(int place) {
            for (int i = place; i + 1 < length; i++) {
                swapWithNext(i);
            }
        }

        /** Moves an atom forward to a place before it; the atoms between keep their order. */
        void moveForward(int from, int place) {
            for (int i = from - 1; i >= place; i--) {
                swapWithNext(i);
            }
        }

        private void swapWithNext(int i) {
            int head = heads[i];
            int first = firsts[i];
            int second = seconds[i];
            set(i, heads[i + 1], firsts[i + 1], seconds[i + 1]);
            set(i + 1, head, first, second);
        }

        private void set(int i, int head, int first, int second) {
            heads[i] = head;
            firsts[i] = first;
            seconds[i] = second;
        }

        boolean isSafe() {
            return has(P) && has(Q);
        }

        private boolean has(int term) {
            for (int i = 0; i < length; i++) {
                if (firsts[i] == term || seconds[i] == term) {
                    return true;
                }
            }
            return false;
        }

        int codeAt(int i) {
            return (heads[i] * 64 + firsts[i]) * 64 + seconds[i];
        }
    }

    private static final class View {
        final AtomList[] rules = new AtomList[RULES];
        int ruleCount;

        View() {
            for (int i = 0; i < RULES; i++) {
                rules[i] = new AtomList(RULE_ATOMS);
            }
        }

        int beginRule() {
            if (ruleCount >= RULES) {
                return NONE;
            }
            rules[ruleCount].makeEmpty();
            ruleCount++;
            return ruleCount - 1;
        }

        boolean addAtom(int relation, int a, int b) {
            return ruleCount > 0 && rules[ruleCount - 1].add(relation, a, b);
        }

        int takeRulesOut() {
            int before = ruleCount;
            ruleCount = 0;
            return before;
        }

        boolean isSafe() {
            for (int i = 0; i < ruleCount; i++) {
                if (!rules[i].isSafe()) {
                    return false;
                }
            }
            return ruleCount > 0;
        }
    }

    /** Atoms, those that could be put in order first, with the pattern of each of these. */
    private static final class Disjunct {
        final AtomList atoms = new AtomList(DISJUNCT_ATOMS);
        final int[] patterns = new int[DISJUNCT_ATOMS];
        boolean dropped;
        boolean blocked;

        void begin() {
            atoms.makeEmpty();
            dropped = false;
            blocked = false;
            Arrays.fill(patterns, NONE);
        }

        void addUnfolded(AtomList rule, AtomList query, int queryAtom) {
            for (int i = 0; i < rule.length; i++) {
                atoms.add(rule.heads[i], unfolded(rule.firsts[i], query, queryAtom),
                        unfolded(rule.seconds[i], query, queryAtom));
            }
        }

        private static int unfolded(int term, AtomList query, int queryAtom) {
            if (term < VALUES) {
                return term;
            }
            if (term == P) {
                return query.firsts[queryAtom];
            }
            if (term == Q) {
                return query.seconds[queryAtom];
            }
            return 4 + 4 * queryAtom + term;
        }

        void takeSuperfluousOut(Mapper mapper) {
            int place = 0;
            for (int toLookAt = atoms.length; toLookAt > 0; toLookAt--) {
                if (mapper.maps(atoms, atoms, place)) {
                    atoms.takeOut(place);
                } else {
                    place++;
                }
            }
        }

        void putInOrder(Relation[] relations) {
            long known = (1L << VALUES) - 1;
            for (int place = 0; place < atoms.length; place++) {
                if (!putNext(place, known, relations)) {
                    blocked = true;
                    return;
                }
                known |= 1L << atoms.firsts[place] | 1L << atoms.seconds[place];
            }
        }

        private boolean putNext(int place, long known, Relation[] relations) {
            for (int i = place; i < atoms.length; i++) {
                int pattern = relations[atoms.heads[i]].greatestPattern(knownHalves(i, known));
                if (pattern != NONE) {
                    atoms.moveForward(i, place);
                    patterns[place] = pattern;
                    return true;
                }
            }
            return false;
        }

        private int knownHalves(int i, long known) {
            int first = (known >> atoms.firsts[i] & 1) != 0 ? WANTS_FIRST : 0;
            int second = (known >> atoms.seconds[i] & 1) != 0 ? WANTS_SECOND : 0;
            return first | second;
        }
    }

    /** What terms become; the terms below a bound stay what they are, the others become nothing at first. */
    private static final class Images {
        final int[] of = new int[UNFOLDED_TERMS];

        Images(int fixed) {
            for (int term = 0; term < UNFOLDED_TERMS; term++) {
                of[term] = term < fixed ? term : NONE;
            }
        }

        boolean letBecome(int term, int image) {
            if (of[term] == NONE) {
                of[term] = image;
            }
            return of[term] == image;
        }
    }

    /** Finds out whether one list of atoms maps into another. */
    private static final class Mapper {
        private final Images images = new Images(Q + 1);
        private AtomList source;
        private AtomList target;
        private int leftOut;

        /** Whether from maps into the atoms of to but the one at the place without (NONE for all of them). */
        boolean maps(AtomList from, AtomList to, int without) {
            source = from;
            target = to;
            leftOut = without;
            return mapsFrom(0);
        }

        private boolean mapsFrom(int depth) {
            if (depth >= source.length) {
                return true;
            }
            for (int i = 0; i < target.length; i++) {
                if (i != leftOut && source.heads[depth] == target.heads[i] && mapsOnto(depth, i)) {
                    return true;
                }
            }
            return false;
        }

        private boolean mapsOnto(int depth, int i) {
            int first = source.firsts[depth];
            int second = source.seconds[depth];
            int oldFirst = images.of[first];
            int oldSecond = images.of[second];
            boolean done = images.letBecome(first, target.firsts[i]) && images.letBecome(second, target.seconds[i])
                    && mapsFrom(depth + 1);
            images.of[first] = oldFirst;
            images.of[second] = oldSecond;
            return done;
        }
    }

    /** The disjuncts that are left of the query's unfolding, each in its order. */
    private static final class Plan {
        final Disjunct[] disjuncts = new Disjunct[DISJUNCTS];
        int count;
        private final AtomList[] chosen = new AtomList[QUERY_ATOMS];
        private final Mapper mapper = new Mapper();

        Plan() {
            for (int i = 0; i < DISJUNCTS; i++) {
                disjuncts[i] = new Disjunct();
            }
        }

        void make(AtomList query, View[] views, Relation[] relations) {
            count = 0;
            unfoldFrom(0, query, views);
            for (int i = 0; i < count; i++) {
                disjuncts[i].takeSuperfluousOut(mapper);
            }
            for (int i = 0; i < count; i++) {
                disjuncts[i].dropped = isCovered(i);
            }
            closeGaps();
            for (int i = 0; i < count; i++) {
                disjuncts[i].putInOrder(relations);
            }
        }

        private void unfoldFrom(int queryAtom, AtomList query, View[] views) {
            if (queryAtom >= query.length) {
                formDisjunct(query);
                return;
            }
            View view = views[query.heads[queryAtom]];
            for (int i = 0; i < view.ruleCount; i++) {
                chosen[queryAtom] = view.rules[i];
                unfoldFrom(queryAtom + 1, query, views);
            }
        }

        private void formDisjunct(AtomList query) {
            if (count >= DISJUNCTS) {
                return;
            }
            Disjunct disjunct = disjuncts[count];
            count++;
            disjunct.begin();
            for (int i = 0; i < query.length; i++) {
                disjunct.addUnfolded(chosen[i], query, i);
            }
        }

        private boolean isCovered(int place) {
            for (int i = 0; i < count; i++) {
                if (i != place && !disjuncts[i].dropped
                        && mapper.maps(disjuncts[i].atoms, disjuncts[place].atoms, NONE)) {
                    return true;
                }
            }
            return false;
        }

        private void closeGaps() {
            int left = 0;
            for (int i = 0; i < count; i++) {
                Disjunct disjunct = disjuncts[i];
                if (!disjunct.dropped) {
                    // The dropped one goes back into the row, to be used again by the next run.
                    disjuncts[i] = disjuncts[left];
                    disjuncts[left] = disjunct;
                    left++;
                }
            }
            count = left;
        }

        boolean isBlocked() {
            for (int i = 0; i < count; i++) {
                if (disjuncts[i].blocked) {
                    return true;
                }
            }
            return false;
        }
    }

    /** A set of numbers below a bound, a bit for each, so that it is soon empty again. */
    private static final class Marks {
        private final long[] words;

        Marks(int bound) {
            words = new long[(bound + 63) / 64];
        }

        void makeEmpty() {
            Arrays.fill(words, 0L);
        }

        boolean has(int number) {
            return (words[number >> 6] >> (number & 63) & 1) != 0;
        }

        /** Whether the number was not there before. */
        boolean add(int number) {
            long bit = 1L << (number & 63);
            boolean isNew = (words[number >> 6] & bit) == 0;
            words[number >> 6] |= bit;
            return isNew;
        }
    }

    /** Asks the relations, and keeps what the latest asking gave. */
    private static final class Asker {
        final int[] results = new int[VALUES * VALUES];
        int resultCount;
        int requestCount;
        int tryCount;
        private final Marks found = new Marks(VALUES * VALUES);
        private final Marks made = new Marks(RELATIONS * PATTERNS * VALUES * VALUES);
        private final Images values = new Images(VALUES);
        private final int[] lastUse = new int[UNFOLDED_TERMS];
        private Relation[] relations;
        private Disjunct disjunct;
        private int goal;
        private int freshRequests;

        void begin() {
            resultCount = 0;
            requestCount = 0;
            tryCount = 0;
        }

        /** False if a relation gave no answer. */
        boolean askAll(Plan plan, Relation[] asked) {
            relations = asked;
            found.makeEmpty();
            made.makeEmpty();
            for (int i = 0; i < plan.count; i++) {
                disjunct = plan.disjuncts[i];
                if (!askDisjunct()) {
                    return false;
                }
            }
            listResults();
            return true;
        }

        private boolean askDisjunct() {
            AtomList atoms = disjunct.atoms;
            for (int i = 0; i < atoms.length; i++) {
                freshRequests = 0;
                walkRoadsTo(i);
                if (freshRequests > 0 && !tryRelation(relations[atoms.heads[i]])) {
                    return false;
                }
            }
            walkRoadsTo(atoms.length);
            return true;
        }

        private boolean tryRelation(Relation relation) {
            if (relation.failing >= TRIES_UNTIL_SILENT) {
                relation.failing -= TRIES_UNTIL_SILENT;
                tryCount += TRIES_UNTIL_SILENT;
                return false;
            }
            tryCount += freshRequests + relation.failing;
            relation.failing = 0;
            requestCount += freshRequests;
            return true;
        }

        private void listResults() {
            for (int i = 0; i < results.length; i++) {
                if (found.has(i)) {
                    results[resultCount] = i;
                    resultCount++;
                }
            }
        }

        /** Walks the roads before the atom at a place; at the end of the disjunct they lead to results. */
        private void walkRoadsTo(int place) {
            goal = place;
            noteLastUses();
            walk(0);
        }

        private void noteLastUses() {
            AtomList atoms = disjunct.atoms;
            Arrays.fill(lastUse, NONE);
            for (int i = 0; i < goal; i++) {
                lastUse[atoms.firsts[i]] = i;
                lastUse[atoms.seconds[i]] = i;
            }
            if (goal >= atoms.length) {
                lastUse[P] = goal;
                lastUse[Q] = goal;
                return;
            }
            if ((disjunct.patterns[goal] & WANTS_FIRST) != 0) {
                lastUse[atoms.firsts[goal]] = goal;
            }
            if ((disjunct.patterns[goal] & WANTS_SECOND) != 0) {
                lastUse[atoms.seconds[goal]] = goal;
            }
        }

        private void walk(int depth) {
            if (depth >= goal) {
                arrive();
                return;
            }
            int first = disjunct.atoms.firsts[depth];
            int second = disjunct.atoms.seconds[depth];
            int oldFirst = values.of[first];
            int oldSecond = values.of[second];
            boolean firstMatters = oldFirst == NONE && lastUse[first] > depth;
            boolean secondMatters = oldSecond == NONE && lastUse[second] > depth;
            Relation relation = relations[disjunct.atoms.heads[depth]];
            int seen = 0;
            for (int i = 0; i < relation.rowCount; i++) {
                if (values.letBecome(first, relation.xs[i]) && values.letBecome(second, relation.ys[i])) {
                    // Roads that differ only in what is not used later lead to the same end: one is enough.
                    int mark = 1 << (firstMatters ? relation.xs[i] : secondMatters ? relation.ys[i] : 0);
                    if (firstMatters && secondMatters || (seen & mark) == 0) {
                        walk(depth + 1);
                    }
                    seen |= mark;
                }
                values.of[first] = oldFirst;
                values.of[second] = oldSecond;
            }
        }

        private void arrive() {
            if (goal >= disjunct.atoms.length) {
                found.add(values.of[P] * VALUES + values.of[Q]);
            } else if (made.add(requestCode())) {
                freshRequests++;
            }
        }

        private int requestCode() {
            AtomList atoms = disjunct.atoms;
            int pattern = disjunct.patterns[goal];
            int x = (pattern & WANTS_FIRST) != 0 ? values.of[atoms.firsts[goal]] : 0;
            int y = (pattern & WANTS_SECOND) != 0 ? values.of[atoms.seconds[goal]] : 0;
            return ((atoms.heads[goal] * PATTERNS + pattern) * VALUES + x) * VALUES + y;
        }
    }
}
