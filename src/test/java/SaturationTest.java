import java.util.ArrayList;
import java.util.Arrays;
import java.util.BitSet;
import java.util.HashMap;
import java.util.List;
import java.util.Map;
import java.util.Random;
import java.util.TreeMap;

/**
 * Promises 8, 9, 11, 12 and 13 where a term has endlessly many terms before or behind it, so that no search ends: the
 * terms that a language becomes are again the language of an automaton, which is built here by adding to it, as long
 * as a left side is at some state, that the right side is at it too.
 */
public final class SaturationTest {
    private static final int SYSTEMS = 500;
    private static final long LARGEST = 1000000000L;

    private static int compared = 0;
    private static int wrong = 0;
    private static final Map<String, Integer> seen = new TreeMap<>();

    public static void main(String[] args) {
        int systems = args.length > 0 ? Integer.parseInt(args[0]) : SYSTEMS;
        int firstSeed = args.length > 1 ? Integer.parseInt(args[1]) : 1;
        for (int seed = firstSeed; seed < firstSeed + systems; seed++) {
            new Scene(seed).compareAll();
        }
        if (args.length > 0) {
            seen.forEach((what, many) -> System.out.println(what + " " + many));
        }
        System.out.println(compared + " answers compared, " + wrong + " wrong");
        if (wrong != 0 || compared == 0) {
            System.exit(1);
        }
    }

    private static void compare(Scene scene, String call, long is, long due) {
        compared++;
        String kind = call.substring(0, call.indexOf('(')) + (due > 1 ? " >1" : " " + due);
        seen.merge(kind, 1, Integer::sum);
        if (is != due) {
            wrong++;
            System.out.println("seed " + scene.seed + ": " + call + " is " + is + ", due " + due);
        }
    }

    /** Chosen terms, rules and transitions, to be put into as many objects as are asked. */
    private static final class Scene {
        final int seed;
        final Random random;
        final int[] places = new int[6];
        /** With few symbols more terms reach one another. */
        final int symbols;
        final List<int[]> terms = new ArrayList<>();
        final List<int[]> rules = new ArrayList<>();
        final List<int[]> edges = new ArrayList<>();
        final BitSet finals = new BitSet();

        Scene(int seed) {
            this.seed = seed;
            random = new Random(seed);
            for (int k = 0; k < 6; k++) {
                places[k] = k < 1 ? 0 : k < 3 ? 1 + random.nextInt(2) : random.nextInt(3);
            }
            symbols = 2 + random.nextInt(5);
            chooseTerms(random.nextInt(8) == 0 ? 48 : 4 + random.nextInt(16));
            chooseRules(random.nextInt(4) == 0 ? 8 : 1 + random.nextInt(5));
            chooseAutomaton(random.nextInt(4) == 0 ? 20 : random.nextInt(12));
        }

        private void chooseTerms(int many) {
            boolean deep = random.nextBoolean();
            terms.add(new int[] {0, -1, -1});
            for (int tries = 0; tries < 400 && terms.size() < many; tries++) {
                int size = terms.size();
                int lowest = deep && size > 4 && random.nextInt(3) > 0 ? size - 4 : 0;
                int a = lowest + random.nextInt(size - lowest);
                addNew(terms, withParts(random.nextInt(symbols), a, random.nextInt(size)));
            }
        }

        /** Often a small left and a right that holds it: then there are endlessly many terms. */
        private void chooseRules(int many) {
            for (int tries = 0; tries < 200 && rules.size() < many; tries++) {
                int left = random.nextInt(random.nextBoolean() ? terms.size() : Math.min(4, terms.size()));
                int right = random.nextInt(terms.size());
                if (left != right && (random.nextInt(3) > 0 || holds(right, left))) {
                    rules.add(new int[] {left, right});
                }
            }
        }

        private boolean holds(int whole, int part) {
            return whole == part
                || whole >= 0 && (holds(terms.get(whole)[1], part) || holds(terms.get(whole)[2], part));
        }

        private void chooseAutomaton(int many) {
            int states = 2 + random.nextInt(5);
            for (int tries = 0; tries < 200 && edges.size() < many; tries++) {
                int[] edge = withParts(random.nextInt(symbols), random.nextInt(states), random.nextInt(states));
                addNew(edges, new int[] {edge[0], edge[1], edge[2], random.nextInt(states)});
            }
            for (int state = 0; state < states; state++) {
                finals.set(state, random.nextInt(3) == 0);
            }
        }

        private int[] withParts(int symbol, int a, int b) {
            return new int[] {symbol, places[symbol] > 0 ? a : -1, places[symbol] > 1 ? b : -1};
        }

        private static void addNew(List<int[]> all, int[] one) {
            for (int[] other : all) {
                if (Arrays.equals(one, other)) {
                    return;
                }
            }
            all.add(one);
        }

        /** Questions on the way, and a rule that goes again, must leave no trace in later answers. */
        private GroundReach makeObject() {
            int bits = 0;
            for (int k = 0; k < 6; k++) {
                bits |= places[k] << 2 * k;
            }
            GroundReach made = new GroundReach(bits);
            for (int[] term : terms) {
                made.term(term[0], term[1], term[2]);
            }
            for (int[] rule : rules) {
                askAll(made, rule[0], rule[1]);
                made.rule(rule[0], rule[1]);
            }
            if (rules.size() < 8 && terms.size() > 1) {
                made.rule(0, terms.size() - 1);
                askAll(made, 0, terms.size() - 1);
                made.cut();
            }
            for (int[] edge : edges) {
                made.edge(edge[0], edge[1], edge[2], edge[3]);
            }
            for (int state = 0; state < 6; state++) {
                made.mark(state, finals.get(state));
            }
            return made;
        }

        private static void askAll(GroundReach made, int s, int t) {
            made.reaches(s, t);
            made.meet(s, t);
            made.from(t);
            made.into(s);
            made.least(s);
        }

        private boolean isEndless() {
            for (int[] rule : rules) {
                if (holds(rule[1], rule[0])) {
                    return true;
                }
            }
            return false;
        }

        void compareAll() {
            seen.merge(isEndless() ? "scene with a rule whose right holds its left" : "other scene", 1, Integer::sum);
            Closed before = languageAutomaton();
            before.saturate(false);
            Closed behind = languageAutomaton();
            behind.saturate(true);
            Closed plain = languageAutomaton();
            List<Closed> reached = new ArrayList<>();
            for (int t = 0; t < terms.size(); t++) {
                reached.add(termAutomaton(t));
                reached.get(t).saturate(false);
            }
            for (int s = 0; s < terms.size(); s++) {
                GroundReach program = makeObject();
                compare(this, "has(" + s + ")", program.has(s) ? 1 : 0, plain.accepts(s) ? 1 : 0);
                compare(this, "from(" + s + ")", program.from(s) ? 1 : 0, before.accepts(s) ? 1 : 0);
                compare(this, "into(" + s + ")", program.into(s) ? 1 : 0, behind.accepts(s) ? 1 : 0);
                compare(this, "into(" + s + ")", program.into(s) ? 1 : 0, reached.get(s).shares(plain) ? 1 : 0);
                compare(this, "least(" + s + ")", program.least(s), reached.get(s).lightest());
                comparePairs(program, s, reached);
            }
        }

        private void comparePairs(GroundReach program, int s, List<Closed> reached) {
            Closed into = termAutomaton(s);
            into.saturate(true);
            for (int t = 0; t < terms.size(); t++) {
                int due = reached.get(s).accepts(t) ? 1 : 0;
                compare(this, "reaches(" + s + "," + t + ")", program.reaches(s, t) ? 1 : 0, due);
                compare(this, "reaches(" + t + "," + s + ")", program.reaches(t, s) ? 1 : 0, into.accepts(t) ? 1 : 0);
                if (terms.size() <= 20 || (s + t) % 7 == 0) {
                    due = reached.get(s).shares(reached.get(t)) ? 1 : 0;
                    compare(this, "meet(" + s + "," + t + ")", program.meet(s, t) ? 1 : 0, due);
                }
            }
        }

        private Closed termAutomaton(int t) {
            Closed made = new Closed(this);
            made.accepting.set(made.addTerm(t, new HashMap<>()));
            return made;
        }

        private Closed languageAutomaton() {
            Closed made = new Closed(this);
            made.states = 6;
            made.edges.addAll(edges);
            made.accepting.or(finals);
            return made;
        }
    }

    /** An automaton that can be closed under the rules; a pass says that what is at one state is at another one too. */
    private static final class Closed {
        final Scene scene;
        final List<int[]> edges = new ArrayList<>();
        final List<int[]> passes = new ArrayList<>();
        final BitSet accepting = new BitSet();
        int states = 0;

        Closed(Scene scene) {
            this.scene = scene;
        }

        /** New states at which just this term and its parts are. */
        int addTerm(int t, Map<Integer, Integer> known) {
            if (t < 0) {
                return -1;
            }
            if (!known.containsKey(t)) {
                int[] term = scene.terms.get(t);
                int p = addTerm(term[1], known);
                int q = addTerm(term[2], known);
                edges.add(new int[] {term[0], p, q, states});
                known.put(t, states++);
            }
            return known.get(t);
        }

        void saturate(boolean backward) {
            Map<Integer, Integer> known = new HashMap<>();
            for (int[] rule : scene.rules) {
                addTerm(rule[backward ? 0 : 1], known);
            }
            boolean grown = true;
            while (grown) {
                grown = false;
                for (int[] rule : scene.rules) {
                    int replacement = known.get(rule[backward ? 0 : 1]);
                    BitSet at = statesOf(rule[backward ? 1 : 0], new HashMap<>());
                    for (int q = at.nextSetBit(0); q >= 0; q = at.nextSetBit(q + 1)) {
                        grown |= addPass(replacement, q);
                    }
                }
            }
        }

        private boolean addPass(int from, int to) {
            for (int[] pass : passes) {
                if (pass[0] == from && pass[1] == to) {
                    return false;
                }
            }
            return passes.add(new int[] {from, to});
        }

        private BitSet statesOf(int t, Map<Integer, BitSet> known) {
            if (!known.containsKey(t)) {
                int[] term = scene.terms.get(t);
                BitSet a = term[1] < 0 ? null : statesOf(term[1], known);
                BitSet b = term[2] < 0 ? null : statesOf(term[2], known);
                BitSet found = new BitSet();
                for (int[] edge : edges) {
                    if (edge[0] == term[0] && (a == null || a.get(edge[1])) && (b == null || b.get(edge[2]))) {
                        found.set(edge[3]);
                    }
                }
                passAll(found);
                known.put(t, found);
            }
            return known.get(t);
        }

        private void passAll(BitSet found) {
            boolean grown = true;
            while (grown) {
                grown = false;
                for (int[] pass : passes) {
                    if (found.get(pass[0]) && !found.get(pass[1])) {
                        found.set(pass[1]);
                        grown = true;
                    }
                }
            }
        }

        boolean accepts(int t) {
            return statesOf(t, new HashMap<>()).intersects(accepting);
        }

        /** Whether some term is accepted by both: the pairs of states at which one term is. */
        boolean shares(Closed other) {
            boolean[][] both = new boolean[states][other.states];
            boolean grown = true;
            while (grown) {
                grown = false;
                for (int[] mine : edges) {
                    for (int[] its : other.edges) {
                        if (mine[0] == its[0] && !both[mine[3]][its[3]]
                            && (mine[1] < 0 || both[mine[1]][its[1]]) && (mine[2] < 0 || both[mine[2]][its[2]])) {
                            both[mine[3]][its[3]] = true;
                            grown = true;
                        }
                    }
                }
                grown |= passBoth(other, both);
            }
            for (int p = accepting.nextSetBit(0); p >= 0; p = accepting.nextSetBit(p + 1)) {
                for (int q = 0; q < other.states; q++) {
                    if (both[p][q] && other.accepting.get(q)) {
                        return true;
                    }
                }
            }
            return false;
        }

        private boolean passBoth(Closed other, boolean[][] both) {
            boolean grown = false;
            for (int[] pass : passes) {
                for (int q = 0; q < other.states; q++) {
                    grown |= both[pass[0]][q] && !both[pass[1]][q];
                    both[pass[1]][q] |= both[pass[0]][q];
                }
            }
            for (int[] pass : other.passes) {
                for (int p = 0; p < states; p++) {
                    grown |= both[p][pass[0]] && !both[p][pass[1]];
                    both[p][pass[1]] |= both[p][pass[0]];
                }
            }
            return grown;
        }

        /** The least size of an accepted term. */
        long lightest() {
            long[] least = new long[states];
            Arrays.fill(least, Long.MAX_VALUE);
            boolean grown = true;
            while (grown) {
                grown = false;
                for (int[] edge : edges) {
                    long p = edge[1] < 0 ? 0 : least[edge[1]];
                    long q = edge[2] < 0 ? 0 : least[edge[2]];
                    if (p != Long.MAX_VALUE && q != Long.MAX_VALUE && 1 + p + q < least[edge[3]]) {
                        least[edge[3]] = 1 + p + q;
                        grown = true;
                    }
                }
                for (int[] pass : passes) {
                    if (least[pass[0]] < least[pass[1]]) {
                        least[pass[1]] = least[pass[0]];
                        grown = true;
                    }
                }
            }
            long best = Long.MAX_VALUE;
            for (int p = accepting.nextSetBit(0); p >= 0; p = accepting.nextSetBit(p + 1)) {
                best = Math.min(best, least[p]);
            }
            return Math.min(LARGEST, best);
        }
    }
}
