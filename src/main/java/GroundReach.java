import java.util.Arrays;

/** Terms without variables, rules that replace them, and an automaton for terms. */
public final class GroundReach {
    public static final int NONE = -1;

    private static final int SYMBOLS = 6;
    private static final int STATES = 6;
    private static final int ALL_STATES = 63;
    private static final int MOST_TERMS = 48;
    private static final int MOST_RULES = 8;
    private static final int MOST_TRANSITIONS = 20;
    private static final int HIGHEST_STEP = 999;
    private static final int LARGEST = 1000000000;
    private static final int MOST_IN_LEVELS = 400;
    private static final int TOO_MANY = -2;
    /** Behind the made terms there is room for those that only the levels of one call need. */
    private static final int ROOM = MOST_TERMS + MOST_IN_LEVELS;

    private final Terms terms;
    private final Rules rules;
    private final Automaton automaton;
    private final Relations relations;
    private final Languages languages;
    private final Steps steps;
    private final Levels levels;

    public GroundReach(int places) {
        terms = new Terms(places);
        rules = new Rules();
        automaton = new Automaton(terms);
        relations = new Relations(terms, rules);
        languages = new Languages(terms, automaton, relations);
        steps = new Steps(terms, rules);
        levels = new Levels(terms, rules);
    }

    public int term(int symbol, int a, int b) throws IllegalArgumentException, IllegalStateException {
        if (!terms.canStand(symbol, a, b)) {
            throw new IllegalArgumentException();
        }
        int made = terms.findOrAppend(symbol, a, b);
        if (made == NONE) {
            throw new IllegalStateException();
        }
        return made;
    }

    public int of(int t, int w) {
        if (!terms.isMade(t)) {
            return NONE;
        }
        switch (w) {
            case 0:
                return terms.symbolOf(t);
            case 1:
                return terms.firstOf(t);
            case 2:
                return terms.secondOf(t);
            case 3:
                return terms.sizeOf(t);
            case 4:
                return steps.countOf(t);
            default:
                return NONE;
        }
    }

    public int rule(int left, int right) throws IllegalArgumentException, IllegalStateException {
        if (!terms.isMade(left) || !terms.isMade(right) || left == right) {
            throw new IllegalArgumentException();
        }
        int made = rules.append(left, right);
        if (made == NONE) {
            throw new IllegalStateException();
        }
        return made;
    }

    public boolean cut() {
        return rules.dropLast();
    }

    public boolean edge(int symbol, int p, int q, int to) throws IllegalArgumentException, IllegalStateException {
        if (!automaton.canStand(symbol, p, q, to)) {
            throw new IllegalArgumentException();
        }
        if (automaton.holds(symbol, p, q, to)) {
            return false;
        }
        if (!automaton.append(symbol, p, q, to)) {
            throw new IllegalStateException();
        }
        return true;
    }

    public boolean mark(int state, boolean on) {
        return isState(state) && automaton.setFinal(state, on);
    }

    public boolean reaches(int s, int t) throws IllegalArgumentException {
        if (!terms.isMade(s) || !terms.isMade(t)) {
            throw new IllegalArgumentException();
        }
        relations.renew();
        return relations.leads(s, t);
    }

    public boolean meet(int s, int t) throws IllegalArgumentException {
        if (!terms.isMade(s) || !terms.isMade(t)) {
            throw new IllegalArgumentException();
        }
        relations.renew();
        return relations.joins(s, t);
    }

    public boolean has(int t) throws IllegalArgumentException {
        if (!terms.isMade(t)) {
            throw new IllegalArgumentException();
        }
        return automaton.anyFinal(languages.statesAt(t));
    }

    public boolean from(int t) throws IllegalArgumentException {
        if (!terms.isMade(t)) {
            throw new IllegalArgumentException();
        }
        relations.renew();
        return automaton.anyFinal(languages.statesBefore(t));
    }

    public boolean into(int t) throws IllegalArgumentException {
        if (!terms.isMade(t)) {
            throw new IllegalArgumentException();
        }
        relations.renew();
        return automaton.anyFinal(languages.statesBehind(t));
    }

    public int least(int t) throws IllegalArgumentException {
        if (!terms.isMade(t)) {
            throw new IllegalArgumentException();
        }
        relations.renew();
        return relations.leastSize(t);
    }

    public int lightest(int state) throws IllegalArgumentException {
        if (!isState(state)) {
            throw new IllegalArgumentException();
        }
        return automaton.leastSize(state);
    }

    public int step(int t, int k) throws IndexOutOfBoundsException, IllegalStateException {
        if (!terms.isMade(t) || k < 0 || k > HIGHEST_STEP || k >= steps.countOf(t)) {
            throw new IndexOutOfBoundsException();
        }
        int target = steps.targetOf(t, k);
        if (target == NONE) {
            throw new IllegalStateException();
        }
        return target;
    }

    public int distance(int s, int t) throws IllegalArgumentException {
        if (!terms.isMade(s) || !terms.isMade(t)) {
            throw new IllegalArgumentException();
        }
        relations.renew();
        return relations.leads(s, t) ? levels.levelOf(s, t) : NONE;
    }

    public int look(int which) {
        switch (which) {
            case 0:
                return terms.count();
            case 1:
                return rules.count();
            case 2:
                return automaton.count();
            case 3:
                return automaton.finals();
            default:
                return which >= 4 && which < 4 + SYMBOLS ? terms.placesOf(which - 4) : NONE;
        }
    }

    private static boolean isState(int state) {
        return state >= 0 && state < STATES;
    }

    /** Each term once, found by a hash; the newest ones can go again. */
    private static final class Terms {
        private static final int BUCKETS = 256;

        private final int[] places = new int[SYMBOLS];
        private final int[] symbol = new int[ROOM];
        private final int[] first = new int[ROOM];
        private final int[] second = new int[ROOM];
        private final int[] size = new int[ROOM];
        private final int[] newestIn = new int[BUCKETS];
        private final int[] olderInBucket = new int[ROOM];
        private int count;

        Terms(int placeBits) {
            for (int k = 0; k < SYMBOLS; k++) {
                places[k] = Math.min(2, (placeBits >> (2 * k)) & 3);
            }
            Arrays.fill(newestIn, NONE);
        }

        int count() {
            return count;
        }

        boolean isMade(int t) {
            return t >= 0 && t < count;
        }

        boolean isSymbol(int s) {
            return s >= 0 && s < SYMBOLS;
        }

        int placesOf(int s) {
            return places[s];
        }

        int symbolOf(int t) {
            return symbol[t];
        }

        int firstOf(int t) {
            return first[t];
        }

        int secondOf(int t) {
            return second[t];
        }

        int sizeOf(int t) {
            return size[t];
        }

        boolean canStand(int s, int a, int b) {
            return isSymbol(s) && (places[s] < 1 || isMade(a)) && (places[s] < 2 || isMade(b));
        }

        /** The made term, or a new one as long as there are fewer than 48; else NONE. */
        int findOrAppend(int s, int a, int b) {
            int known = find(s, a, b);
            return known != NONE || count >= MOST_TERMS ? known : append(s, a, b);
        }

        int find(int s, int a, int b) {
            int p = places[s] < 1 ? NONE : a;
            int q = places[s] < 2 ? NONE : b;
            int t = newestIn[bucketOf(s, p, q)];
            for (int tries = 0; tries < ROOM && t != NONE; tries++) {
                if (symbol[t] == s && first[t] == p && second[t] == q) {
                    return t;
                }
                t = olderInBucket[t];
            }
            return NONE;
        }

        int append(int s, int a, int b) {
            if (count >= ROOM) {
                return NONE;
            }
            int t = count++;
            symbol[t] = s;
            first[t] = places[s] < 1 ? NONE : a;
            second[t] = places[s] < 2 ? NONE : b;
            size[t] = joinedSize(s, first[t], second[t]);
            int bucket = bucketOf(s, first[t], second[t]);
            olderInBucket[t] = newestIn[bucket];
            newestIn[bucket] = t;
            return t;
        }

        /** The last ones go first, so that each is the newest of its bucket when it goes. */
        void keepFirst(int kept) {
            while (count > kept) {
                count--;
                newestIn[bucketOf(symbol[count], first[count], second[count])] = olderInBucket[count];
            }
        }

        private int joinedSize(int s, int a, int b) {
            int parts = (places[s] < 1 ? 0 : size[a]) + (places[s] < 2 ? 0 : size[b]);
            return Math.min(LARGEST, 1 + parts);
        }

        private static int bucketOf(int s, int a, int b) {
            return (s * 961 + a * 31 + b) & (BUCKETS - 1);
        }
    }

    private static final class Rules {
        private final int[] left = new int[MOST_RULES];
        private final int[] right = new int[MOST_RULES];
        private int count;
        private int changes;

        int count() {
            return count;
        }

        /** Tells whether what was derived from the rules is still true. */
        int changes() {
            return changes;
        }

        int leftOf(int r) {
            return left[r];
        }

        int rightOf(int r) {
            return right[r];
        }

        int append(int replaced, int replacement) {
            if (count >= MOST_RULES) {
                return NONE;
            }
            left[count] = replaced;
            right[count] = replacement;
            changes++;
            return count++;
        }

        boolean dropLast() {
            if (count == 0) {
                return false;
            }
            count--;
            changes++;
            return true;
        }

        int countAt(int t) {
            int found = 0;
            for (int r = 0; r < count; r++) {
                if (left[r] == t) {
                    found++;
                }
            }
            return found;
        }

        /** The right of the rule that has `skipped` others with the same left before it. */
        int rightAt(int t, int skipped) {
            int passed = 0;
            for (int r = 0; r < count; r++) {
                if (left[r] != t) {
                    continue;
                }
                if (passed == skipped) {
                    return right[r];
                }
                passed++;
            }
            return NONE;
        }
    }

    private static final class Automaton {
        private final Terms terms;
        private final int[] symbol = new int[MOST_TRANSITIONS];
        private final int[] first = new int[MOST_TRANSITIONS];
        private final int[] second = new int[MOST_TRANSITIONS];
        private final int[] target = new int[MOST_TRANSITIONS];
        private final int[] weight = new int[STATES];
        private int count;
        private int finals;

        Automaton(Terms terms) {
            this.terms = terms;
        }

        int count() {
            return count;
        }

        int finals() {
            return finals;
        }

        boolean anyFinal(int states) {
            return (states & finals) != 0;
        }

        boolean setFinal(int state, boolean on) {
            int changed = on ? finals | 1 << state : finals & ~(1 << state);
            if (changed == finals) {
                return false;
            }
            finals = changed;
            return true;
        }

        boolean canStand(int s, int p, int q, int to) {
            return terms.isSymbol(s) && isState(to)
                && (terms.placesOf(s) < 1 || isState(p))
                && (terms.placesOf(s) < 2 || isState(q));
        }

        boolean holds(int s, int p, int q, int to) {
            for (int e = 0; e < count; e++) {
                if (symbol[e] == s && target[e] == to
                    && (terms.placesOf(s) < 1 || first[e] == p)
                    && (terms.placesOf(s) < 2 || second[e] == q)) {
                    return true;
                }
            }
            return false;
        }

        boolean append(int s, int p, int q, int to) {
            if (count >= MOST_TRANSITIONS) {
                return false;
            }
            symbol[count] = s;
            first[count] = terms.placesOf(s) < 1 ? 0 : p;
            second[count] = terms.placesOf(s) < 2 ? 0 : q;
            target[count] = to;
            count++;
            return true;
        }

        /** The states to which a symbol leads from some states in its places; ALL_STATES where it has none. */
        int targetsOf(int s, int firstStates, int secondStates) {
            int found = 0;
            for (int e = 0; e < count; e++) {
                if (symbol[e] == s && (firstStates >> first[e] & 1) != 0 && (secondStates >> second[e] & 1) != 0) {
                    found |= 1 << target[e];
                }
            }
            return found;
        }

        /** A lightest term has no state twice on a path: as many rounds as states suffice, and its size is below 64. */
        int leastSize(int state) {
            Arrays.fill(weight, NONE);
            for (int round = 0; round < STATES; round++) {
                for (int e = 0; e < count; e++) {
                    lighten(e);
                }
            }
            return weight[state];
        }

        private void lighten(int e) {
            int p = terms.placesOf(symbol[e]) < 1 ? 0 : weight[first[e]];
            int q = terms.placesOf(symbol[e]) < 2 ? 0 : weight[second[e]];
            if (p == NONE || q == NONE) {
                return;
            }
            int known = weight[target[e]];
            if (known == NONE || 1 + p + q < known) {
                weight[target[e]] = 1 + p + q;
            }
        }
    }

    /**
     * What holds between two made terms, a row of bits for each of them. The rules' sides are made terms, and
     * between two steps at the root only parts of made terms change, so no other terms need be looked at.
     */
    private static final class Relations {
        /** Each round but the last adds a pair. */
        private static final int MOST_ROUNDS = MOST_TERMS * MOST_TERMS + 1;

        private final Terms terms;
        private final Rules rules;
        private final long[] reached = new long[MOST_TERMS];
        private final long[] joined = new long[MOST_TERMS];
        private final int[] least = new int[MOST_TERMS];
        private int termsThen = NONE;
        private int changesThen = NONE;
        private boolean joinedKnown;

        Relations(Terms terms, Rules rules) {
            this.terms = terms;
            this.rules = rules;
        }

        /** What is asked of the relations is true of the terms and rules that there were here. */
        void renew() {
            if (termsThen == terms.count() && changesThen == rules.changes()) {
                return;
            }
            termsThen = terms.count();
            changesThen = rules.changes();
            joinedKnown = false;
            findReached();
        }

        boolean leads(int s, int t) {
            return isIn(reached, s, t);
        }

        boolean joins(int s, int t) {
            if (!joinedKnown) {
                findJoined();
                joinedKnown = true;
            }
            return isIn(joined, s, t);
        }

        int leastSize(int t) {
            int count = terms.count();
            for (int u = 0; u < count; u++) {
                least[u] = terms.sizeOf(u);
            }
            boolean changed = true;
            for (int round = 0; round <= MOST_TERMS && changed; round++) {
                changed = shrink(count);
            }
            return least[t];
        }

        private void findReached() {
            int count = terms.count();
            for (int u = 0; u < count; u++) {
                reached[u] = 1L << u;
            }
            for (int r = 0; r < rules.count(); r++) {
                reached[rules.leftOf(r)] |= 1L << rules.rightOf(r);
            }
            boolean grown = true;
            for (int round = 0; round < MOST_ROUNDS && grown; round++) {
                chain(count);
                grown = liftFromParts(reached, count);
            }
        }

        private void chain(int count) {
            for (int middle = 0; middle < count; middle++) {
                for (int u = 0; u < count; u++) {
                    if (isIn(reached, u, middle)) {
                        reached[u] |= reached[middle];
                    }
                }
            }
        }

        private void findJoined() {
            int count = terms.count();
            for (int u = 0; u < count; u++) {
                joined[u] = 1L << u;
            }
            boolean grown = true;
            for (int round = 0; round < MOST_ROUNDS && grown; round++) {
                grown = inheritJoined(count);
                if (liftFromParts(joined, count)) {
                    grown = true;
                }
            }
        }

        /** A term joins what one that it reaches joins, and is joined by that. */
        private boolean inheritJoined(int count) {
            boolean grown = false;
            for (int u = 0; u < count; u++) {
                long row = joined[u];
                for (int v = 0; v < count; v++) {
                    if (isIn(reached, u, v)) {
                        row |= joined[v];
                    }
                    if (isIn(joined, v, u)) {
                        row |= 1L << v;
                    }
                }
                grown |= row != joined[u];
                joined[u] = row;
            }
            return grown;
        }

        /** Two terms with one symbol are related if all their parts are. */
        private boolean liftFromParts(long[] rows, int count) {
            boolean grown = false;
            for (int u = 0; u < count; u++) {
                for (int v = 0; v < count; v++) {
                    if (!isIn(rows, u, v) && partsRelated(rows, u, v)) {
                        rows[u] |= 1L << v;
                        grown = true;
                    }
                }
            }
            return grown;
        }

        private boolean partsRelated(long[] rows, int u, int v) {
            if (terms.symbolOf(u) != terms.symbolOf(v)) {
                return false;
            }
            int places = terms.placesOf(terms.symbolOf(u));
            return (places < 1 || isIn(rows, terms.firstOf(u), terms.firstOf(v)))
                && (places < 2 || isIn(rows, terms.secondOf(u), terms.secondOf(v)));
        }

        private boolean shrink(int count) {
            boolean changed = false;
            for (int v = 0; v < count; v++) {
                int size = sizeWithLeastParts(v);
                for (int u = 0; u < count; u++) {
                    if (isIn(reached, u, v) && size < least[u]) {
                        least[u] = size;
                        changed = true;
                    }
                }
            }
            return changed;
        }

        private int sizeWithLeastParts(int v) {
            int places = terms.placesOf(terms.symbolOf(v));
            int parts = (places < 1 ? 0 : least[terms.firstOf(v)]) + (places < 2 ? 0 : least[terms.secondOf(v)]);
            return Math.min(LARGEST, 1 + parts);
        }

        private static boolean isIn(long[] rows, int u, int v) {
            return (rows[u] >> v & 1L) != 0;
        }
    }

    /** For each made term the states of the terms that it is, that reach it, or that it reaches. */
    private static final class Languages {
        /** Each round but the last adds a state to a term. */
        private static final int MOST_ROUNDS = MOST_TERMS * STATES + 1;

        private final Terms terms;
        private final Automaton automaton;
        private final Relations relations;
        private final int[] states = new int[MOST_TERMS];

        Languages(Terms terms, Automaton automaton, Relations relations) {
            this.terms = terms;
            this.automaton = automaton;
            this.relations = relations;
        }

        int statesAt(int t) {
            Arrays.fill(states, 0);
            runFromParts();
            return states[t];
        }

        int statesBefore(int t) {
            spread(true);
            return states[t];
        }

        int statesBehind(int t) {
            spread(false);
            return states[t];
        }

        private void spread(boolean forward) {
            Arrays.fill(states, 0);
            boolean grown = true;
            for (int round = 0; round < MOST_ROUNDS && grown; round++) {
                grown = runFromParts();
                if (passOn(forward)) {
                    grown = true;
                }
            }
        }

        private boolean runFromParts() {
            boolean grown = false;
            for (int t = 0; t < terms.count(); t++) {
                int symbol = terms.symbolOf(t);
                int places = terms.placesOf(symbol);
                int inFirst = places < 1 ? ALL_STATES : states[terms.firstOf(t)];
                int inSecond = places < 2 ? ALL_STATES : states[terms.secondOf(t)];
                grown |= addStates(t, automaton.targetsOf(symbol, inFirst, inSecond));
            }
            return grown;
        }

        private boolean passOn(boolean forward) {
            boolean grown = false;
            int count = terms.count();
            for (int u = 0; u < count; u++) {
                for (int v = 0; v < count; v++) {
                    if (relations.leads(u, v)) {
                        grown |= forward ? addStates(v, states[u]) : addStates(u, states[v]);
                    }
                }
            }
            return grown;
        }

        private boolean addStates(int t, int more) {
            int all = states[t] | more;
            boolean grown = all != states[t];
            states[t] = all;
            return grown;
        }
    }

    private static final class Steps {
        private final Terms terms;
        private final Rules rules;
        /** Uncut: 8 rules and 48 terms keep it far below the end of a long. */
        private final long[] counts = new long[MOST_TERMS];
        private final int[] path = new int[MOST_TERMS];
        private final boolean[] wentFirst = new boolean[MOST_TERMS];

        Steps(Terms terms, Rules rules) {
            this.terms = terms;
            this.rules = rules;
        }

        int countOf(int t) {
            countAll();
            return (int) Math.min(LARGEST, counts[t]);
        }

        /** Where step k leads, k being below the count; NONE, and no new term, if there is no room for it. */
        int targetOf(int t, int k) {
            countAll();
            int part = t;
            int depth = 0;
            long rest = k;
            while (depth < MOST_TERMS && part != NONE && rest >= rules.countAt(part)) {
                rest -= rules.countAt(part);
                int first = terms.firstOf(part);
                path[depth] = part;
                wentFirst[depth] = rest < countIn(first);
                rest -= wentFirst[depth] ? 0 : countIn(first);
                part = wentFirst[depth] ? first : terms.secondOf(part);
                depth++;
            }
            return rebuild(depth, rules.rightAt(part, (int) rest));
        }

        private int rebuild(int depth, int replacement) {
            int before = terms.count();
            int built = replacement;
            for (int d = depth - 1; d >= 0 && built != NONE; d--) {
                int whole = path[d];
                int a = wentFirst[d] ? built : terms.firstOf(whole);
                int b = wentFirst[d] ? terms.secondOf(whole) : built;
                built = terms.findOrAppend(terms.symbolOf(whole), a, b);
            }
            if (built == NONE) {
                terms.keepFirst(before);
            }
            return built;
        }

        private void countAll() {
            for (int t = 0; t < terms.count(); t++) {
                counts[t] = rules.countAt(t) + countIn(terms.firstOf(t)) + countIn(terms.secondOf(t));
            }
        }

        private long countIn(int part) {
            return part == NONE ? 0 : counts[part];
        }
    }

    /**
     * The levels of a term. What one step makes of a part is a part of what one step makes of the whole, so the
     * steps of each part are found once, and all terms that come up on the way are among those to be counted.
     */
    private static final class Levels {
        private static final int WORDS = ROOM / 64;

        private final Terms terms;
        private final Rules rules;
        /** For each term the bits of the terms to which one step leads. */
        private final long[] after = new long[ROOM * WORDS];
        private final boolean[] counted = new boolean[ROOM];
        private final boolean[] expanded = new boolean[ROOM];
        private final long[] inLevels = new long[WORDS];
        private final long[] newest = new long[WORDS];
        private final long[] coming = new long[WORDS];
        private final int[] waiting = new int[ROOM];
        private int countedTerms;

        Levels(Terms terms, Rules rules) {
            this.terms = terms;
            this.rules = rules;
        }

        /** The level of s in which t is, s reaching t; TOO_MANY if there are too many terms up to it. */
        int levelOf(int s, int t) {
            int made = terms.count();
            start(s);
            int level = 0;
            while (level < MOST_IN_LEVELS && countedTerms <= MOST_IN_LEVELS && !isIn(inLevels, t)) {
                int many = findWaiting();
                for (int i = 0; i < many && countedTerms <= MOST_IN_LEVELS; i++) {
                    expand(waiting[i]);
                    expanded[waiting[i]] = true;
                }
                goOn();
                level++;
            }
            terms.keepFirst(made);
            return countedTerms <= MOST_IN_LEVELS && isIn(inLevels, t) ? level : TOO_MANY;
        }

        private void start(int s) {
            Arrays.fill(after, 0L);
            Arrays.fill(inLevels, 0L);
            Arrays.fill(newest, 0L);
            for (int t = 0; t < ROOM; t++) {
                counted[t] = false;
                expanded[t] = false;
            }
            countedTerms = 0;
            countWithParts(s);
            include(inLevels, 0, s);
            include(newest, 0, s);
        }

        /** Only what is counted before the first one is expanded: the others belong to the next level. */
        private int findWaiting() {
            int many = 0;
            for (int t = 0; t < terms.count(); t++) {
                if (counted[t] && !expanded[t]) {
                    waiting[many++] = t;
                }
            }
            return many;
        }

        /** The parts of t have lower numbers, so they have been expanded before it. */
        private void expand(int t) {
            for (int r = 0; r < rules.count(); r++) {
                if (rules.leftOf(r) == t) {
                    countWithParts(rules.rightOf(r));
                    include(after, t * WORDS, rules.rightOf(r));
                }
            }
            int places = terms.placesOf(terms.symbolOf(t));
            if (places > 0) {
                stepInPart(t, terms.firstOf(t), true);
            }
            if (places > 1) {
                stepInPart(t, terms.secondOf(t), false);
            }
        }

        private void stepInPart(int t, int part, boolean isFirst) {
            for (int word = 0; word < WORDS; word++) {
                long bits = after[part * WORDS + word];
                for (int i = 0; i < 64 && bits != 0; i++) {
                    if ((bits & 1L) != 0) {
                        int changed = word * 64 + i;
                        include(after, t * WORDS, isFirst
                            ? findCounted(terms.symbolOf(t), changed, terms.secondOf(t))
                            : findCounted(terms.symbolOf(t), terms.firstOf(t), changed));
                    }
                    bits >>>= 1;
                }
            }
        }

        /** The term, counted among those of the levels; NONE if that is one too many. */
        private int findCounted(int symbol, int a, int b) {
            int known = terms.find(symbol, a, b);
            if (known != NONE) {
                countWithParts(known);
                return known;
            }
            countedTerms++;
            if (countedTerms > MOST_IN_LEVELS) {
                return NONE;
            }
            int t = terms.append(symbol, a, b);
            if (t != NONE) {
                counted[t] = true;
            }
            return t;
        }

        /** Terms that are not counted yet were made by calls of the face: their bits fit into a long. */
        private void countWithParts(int t) {
            if (counted[t]) {
                return;
            }
            long wanted = 1L << t;
            for (int part = t; part >= 0; part--) {
                if ((wanted >> part & 1L) == 0 || counted[part]) {
                    continue;
                }
                counted[part] = true;
                countedTerms++;
                int places = terms.placesOf(terms.symbolOf(part));
                wanted |= places < 1 ? 0 : 1L << terms.firstOf(part);
                wanted |= places < 2 ? 0 : 1L << terms.secondOf(part);
            }
        }

        private void goOn() {
            Arrays.fill(coming, 0L);
            for (int t = 0; t < terms.count(); t++) {
                for (int word = 0; word < WORDS && isIn(newest, t); word++) {
                    coming[word] |= after[t * WORDS + word];
                }
            }
            for (int word = 0; word < WORDS; word++) {
                newest[word] = coming[word] & ~inLevels[word];
                inLevels[word] |= newest[word];
            }
        }

        private static void include(long[] bits, int start, int t) {
            if (t != NONE) {
                bits[start + t / 64] |= 1L << t % 64;
            }
        }

        private static boolean isIn(long[] bits, int t) {
            return (bits[t / 64] >> t % 64 & 1L) != 0;
        }
    }
}
