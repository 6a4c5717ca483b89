import java.util.ArrayList;
import java.util.HashMap;
import java.util.HashSet;
import java.util.LinkedHashSet;
import java.util.List;
import java.util.Map;
import java.util.Random;
import java.util.Set;

/** Long runs of chosen calls, each answer held against a plain search through the terms themselves. */
public final class ModelTest {
    private static final int RUNS = 150;
    private static final int CALLS = 220;
    private static final int IAE = 1;
    private static final int ISE = 2;
    private static final int IOOBE = 3;

    /** So many terms a search looks at before it gives up. */
    private static int searched = 300;
    private static int wrong = 0;
    private static int compared = 0;
    private static final Map<String, Integer> seen = new HashMap<>();

    public static void main(String[] args) {
        int runs = args.length > 0 ? Integer.parseInt(args[0]) : RUNS;
        int firstSeed = args.length > 1 ? Integer.parseInt(args[1]) : 1;
        searched = args.length > 2 ? Integer.parseInt(args[2]) : searched;
        for (int seed = firstSeed; seed < firstSeed + runs; seed++) {
            new Run(seed).go();
        }
        if (args.length > 0) {
            seen.entrySet().stream().sorted(Map.Entry.comparingByKey()).forEach(System.out::println);
        }
        System.out.println(compared + " answers compared, " + wrong + " wrong");
        if (wrong != 0 || compared < runs * CALLS / 4) {
            System.exit(1);
        }
    }

    /** An answer or a thrown exception. */
    private record Outcome(int thrown, long value) {
        @Override public String toString() {
            return thrown == 0 ? "" + value : "throws " + thrown;
        }
    }

    private static Outcome answer(long value) {
        return new Outcome(0, value);
    }

    private static Outcome answer(boolean value) {
        return new Outcome(0, value ? 1 : 0);
    }

    private static Outcome thrown(int which) {
        return new Outcome(which, 0);
    }

    /** What the document says, by search; where a search does not end, null. */
    private static final class Model {
        record Node(int symbol, int a, int b) { }

        final int[] places = new int[6];
        final List<Integer> made = new ArrayList<>();
        final List<int[]> rules = new ArrayList<>();
        final List<List<Integer>> edges = new ArrayList<>();
        final boolean[] finals = new boolean[6];
        /** All terms that ever came up, made ones or not, each with a key. */
        final List<Node> nodes = new ArrayList<>();
        final Map<Node, Integer> keys = new HashMap<>();

        Model(int bits) {
            for (int k = 0; k < 6; k++) {
                int low = (bits >>> (2 * k)) % 2 == 0 ? 0 : 1;
                int high = (bits >>> (2 * k + 1)) % 2 == 0 ? 0 : 2;
                places[k] = low + high == 3 ? 2 : low + high;
            }
        }

        int key(int symbol, int a, int b) {
            Node node = new Node(symbol, places[symbol] > 0 ? a : -1, places[symbol] > 1 ? b : -1);
            Integer known = keys.get(node);
            if (known == null) {
                known = nodes.size();
                nodes.add(node);
                keys.put(node, known);
            }
            return known;
        }

        boolean isTerm(int t) {
            return t >= 0 && t < made.size();
        }

        Outcome term(int symbol, int a, int b) {
            if (symbol < 0 || symbol > 5 || places[symbol] > 0 && !isTerm(a) || places[symbol] > 1 && !isTerm(b)) {
                return thrown(IAE);
            }
            int key = key(symbol, places[symbol] > 0 ? made.get(a) : -1, places[symbol] > 1 ? made.get(b) : -1);
            if (!made.contains(key)) {
                if (made.size() == 48) {
                    return thrown(ISE);
                }
                made.add(key);
            }
            return answer(made.indexOf(key));
        }

        Outcome of(int t, int w) {
            if (!isTerm(t) || w < 0 || w > 4) {
                return answer(-1);
            }
            Node node = nodes.get(made.get(t));
            switch (w) {
                case 0: return answer(node.symbol);
                case 1: return answer(node.a < 0 ? -1 : made.indexOf(node.a));
                case 2: return answer(node.b < 0 ? -1 : made.indexOf(node.b));
                case 3: return answer(Math.min(1000000000L, size(made.get(t))));
                default: return answer(Math.min(1000000000L, stepCount(made.get(t), new HashMap<>())));
            }
        }

        long size(int key) {
            return size(key, new HashMap<>());
        }

        long size(int key, Map<Integer, Long> known) {
            if (key < 0) {
                return 0;
            }
            Long is = known.get(key);
            if (is == null) {
                Node node = nodes.get(key);
                is = Math.min(1L << 60, 1 + size(node.a, known) + size(node.b, known));
                known.put(key, is);
            }
            return is;
        }

        long stepCount(int key, Map<Integer, Long> known) {
            if (key < 0) {
                return 0;
            }
            Long is = known.get(key);
            if (is == null) {
                Node node = nodes.get(key);
                is = stepCount(node.a, known) + stepCount(node.b, known);
                for (int[] rule : rules) {
                    is += rule[0] == key ? 1 : 0;
                }
                known.put(key, is);
            }
            return is;
        }

        Outcome rule(int left, int right) {
            if (!isTerm(left) || !isTerm(right) || left == right) {
                return thrown(IAE);
            }
            if (rules.size() == 8) {
                return thrown(ISE);
            }
            rules.add(new int[] {made.get(left), made.get(right)});
            return answer(rules.size() - 1);
        }

        Outcome cut() {
            if (rules.isEmpty()) {
                return answer(false);
            }
            rules.remove(rules.size() - 1);
            return answer(true);
        }

        Outcome edge(int symbol, int p, int q, int to) {
            if (symbol < 0 || symbol > 5 || to < 0 || to > 5
                || places[symbol] > 0 && (p < 0 || p > 5) || places[symbol] > 1 && (q < 0 || q > 5)) {
                return thrown(IAE);
            }
            List<Integer> edge = List.of(symbol, places[symbol] > 0 ? p : -1, places[symbol] > 1 ? q : -1, to);
            if (edges.contains(edge)) {
                return answer(false);
            }
            if (edges.size() == 20) {
                return thrown(ISE);
            }
            edges.add(edge);
            return answer(true);
        }

        Outcome mark(int state, boolean on) {
            if (state < 0 || state > 5 || finals[state] == on) {
                return answer(false);
            }
            finals[state] = on;
            return answer(true);
        }

        /** The terms behind at most `limit` steps, in their order; each position of the tree is gone to by itself. */
        void steps(int key, boolean backward, List<Integer> found, int limit) {
            for (int[] rule : rules) {
                if (rule[backward ? 1 : 0] == key) {
                    found.add(rule[backward ? 0 : 1]);
                }
            }
            Node node = nodes.get(key);
            if (node.a >= 0 && found.size() <= limit) {
                List<Integer> inside = new ArrayList<>();
                steps(node.a, backward, inside, limit);
                for (int part : inside) {
                    found.add(key(node.symbol, part, node.b));
                }
            }
            if (node.b >= 0 && found.size() <= limit) {
                List<Integer> inside = new ArrayList<>();
                steps(node.b, backward, inside, limit);
                for (int part : inside) {
                    found.add(key(node.symbol, node.a, part));
                }
            }
        }

        /** All that a term reaches, or that reaches it; complete[0] tells whether the search came to its end. */
        Set<Integer> search(int key, boolean backward, boolean[] complete) {
            complete[0] = true;
            Set<Integer> all = new LinkedHashSet<>();
            all.add(key);
            List<Integer> queue = new ArrayList<>(all);
            for (int i = 0; i < queue.size(); i++) {
                List<Integer> found = new ArrayList<>();
                if (tooLarge(queue.get(i)) || i > searched) {
                    complete[0] = false;
                    continue;
                }
                steps(queue.get(i), backward, found, 4000);
                for (int next : found) {
                    if (all.add(next)) {
                        queue.add(next);
                    }
                }
            }
            return all;
        }

        boolean tooLarge(int key) {
            return size(key) > 3000;
        }

        Outcome reaches(int s, int t) {
            if (!isTerm(s) || !isTerm(t)) {
                return thrown(IAE);
            }
            boolean[] complete = new boolean[1];
            if (search(made.get(s), false, complete).contains(made.get(t))) {
                return answer(true);
            }
            if (complete[0]) {
                return answer(false);
            }
            boolean back = search(made.get(t), true, complete).contains(made.get(s));
            return back || complete[0] ? answer(back) : null;
        }

        Outcome meet(int s, int t) {
            if (!isTerm(s) || !isTerm(t)) {
                return thrown(IAE);
            }
            boolean[] sComplete = new boolean[1];
            boolean[] tComplete = new boolean[1];
            Set<Integer> common = search(made.get(s), false, sComplete);
            common.retainAll(search(made.get(t), false, tComplete));
            return !common.isEmpty() ? answer(true) : sComplete[0] && tComplete[0] ? answer(false) : null;
        }

        int states(int key, Map<Integer, Integer> known) {
            if (key < 0) {
                return 0;
            }
            Integer is = known.get(key);
            if (is == null) {
                Node node = nodes.get(key);
                int inA = states(node.a, known);
                int inB = states(node.b, known);
                is = 0;
                for (List<Integer> edge : edges) {
                    boolean fits = edge.get(0) == node.symbol
                        && (node.a < 0 || (inA & 1 << edge.get(1)) != 0)
                        && (node.b < 0 || (inB & 1 << edge.get(2)) != 0);
                    is |= fits ? 1 << edge.get(3) : 0;
                }
                known.put(key, is);
            }
            return is;
        }

        boolean inLanguage(int key, Map<Integer, Integer> known) {
            int states = states(key, known);
            for (int state = 0; state < 6; state++) {
                if (finals[state] && (states & 1 << state) != 0) {
                    return true;
                }
            }
            return false;
        }

        Outcome has(int t) {
            return isTerm(t) ? answer(inLanguage(made.get(t), new HashMap<>())) : thrown(IAE);
        }

        Outcome language(int t, boolean backward) {
            if (!isTerm(t)) {
                return thrown(IAE);
            }
            boolean[] complete = new boolean[1];
            Map<Integer, Integer> known = new HashMap<>();
            for (int key : search(made.get(t), backward, complete)) {
                if (inLanguage(key, known)) {
                    return answer(true);
                }
            }
            return complete[0] ? answer(false) : null;
        }

        Outcome least(int t) {
            if (!isTerm(t)) {
                return thrown(IAE);
            }
            boolean[] complete = new boolean[1];
            long least = Long.MAX_VALUE;
            Map<Integer, Long> known = new HashMap<>();
            for (int key : search(made.get(t), false, complete)) {
                least = Math.min(least, size(key, known));
            }
            return complete[0] || least == 1 ? answer(Math.min(1000000000L, least)) : null;
        }

        /** By sizes: at which states is some term of just this size. */
        Outcome lightest(int state) {
            if (state < 0 || state > 5) {
                return thrown(IAE);
            }
            boolean[][] at = new boolean[64][6];
            for (int size = 1; size < 64; size++) {
                for (List<Integer> edge : edges) {
                    at[size][edge.get(3)] |= built(at, edge, size);
                }
                if (at[size][state]) {
                    return answer(size);
                }
            }
            return answer(-1);
        }

        private boolean built(boolean[][] at, List<Integer> edge, int size) {
            int many = places[edge.get(0)];
            if (many == 0) {
                return size == 1;
            }
            if (many == 1) {
                return at[size - 1][edge.get(1)];
            }
            for (int a = 1; a < size - 1; a++) {
                if (at[a][edge.get(1)] && at[size - 1 - a][edge.get(2)]) {
                    return true;
                }
            }
            return false;
        }

        Outcome step(int t, int k) {
            if (!isTerm(t) || k < 0 || k > 999) {
                return thrown(IOOBE);
            }
            List<Integer> found = new ArrayList<>();
            steps(made.get(t), false, found, 1000);
            if (k >= found.size()) {
                return thrown(IOOBE);
            }
            List<Integer> lacking = new ArrayList<>();
            lacking(found.get(k), lacking);
            if (made.size() + lacking.size() > 48) {
                return thrown(ISE);
            }
            made.addAll(lacking);
            return answer(made.indexOf(found.get(k)));
        }

        private void lacking(int key, List<Integer> found) {
            if (key < 0 || made.contains(key) || found.contains(key)) {
                return;
            }
            lacking(nodes.get(key).a, found);
            lacking(nodes.get(key).b, found);
            found.add(key);
        }

        /** The program's own reaches stands in where the search does not end: that one is checked by itself. */
        Outcome distance(int s, int t, GroundReach program) {
            if (!isTerm(s) || !isTerm(t)) {
                return thrown(IAE);
            }
            Outcome reached = reaches(s, t);
            if (reached == null ? !program.reaches(s, t) : reached.value == 0) {
                return answer(-1);
            }
            Set<Integer> levels = new HashSet<>(Set.of(made.get(s)));
            Set<Integer> parts = new HashSet<>();
            addParts(made.get(s), parts);
            Set<Integer> level = new HashSet<>(levels);
            for (int number = 0; parts.size() <= 400; number++) {
                if (level.contains(made.get(t))) {
                    return answer(number);
                }
                level = nextLevel(level, levels, parts);
            }
            return answer(-2);
        }

        private Set<Integer> nextLevel(Set<Integer> level, Set<Integer> levels, Set<Integer> parts) {
            Set<Integer> next = new HashSet<>();
            for (int key : level) {
                List<Integer> found = new ArrayList<>();
                steps(key, false, found, 5000);
                for (int to : found) {
                    addParts(to, parts);
                    if (levels.add(to)) {
                        next.add(to);
                    }
                }
                if (parts.size() > 400) {
                    return next;
                }
            }
            return next;
        }

        private void addParts(int key, Set<Integer> parts) {
            if (key >= 0 && parts.add(key)) {
                addParts(nodes.get(key).a, parts);
                addParts(nodes.get(key).b, parts);
            }
        }

        Outcome look(int which) {
            switch (which) {
                case 0: return answer(made.size());
                case 1: return answer(rules.size());
                case 2: return answer(edges.size());
                case 3:
                    int bits = 0;
                    for (int state = 0; state < 6; state++) {
                        bits += finals[state] ? 1 << state : 0;
                    }
                    return answer(bits);
                default: return answer(which >= 4 && which <= 9 ? places[which - 4] : -1);
            }
        }
    }

    private static final class Run {
        private final int seed;
        private final Random random;
        private final GroundReach program;
        private final Model model;
        private final List<String> calls = new ArrayList<>();
        private final int mostRules;
        private final int mostTerms;

        Run(int seed) {
            this.seed = seed;
            random = new Random(seed);
            int[] usual = {2640, 2577, 2640, 0b100101010000, 0b101010010100};
            int bits = random.nextInt(4) > 0 ? usual[random.nextInt(usual.length)] : random.nextInt();
            program = new GroundReach(bits);
            model = new Model(bits);
            mostRules = 1 + random.nextInt(9);
            mostTerms = random.nextInt(3) == 0 ? 60 : 4 + random.nextInt(30);
            calls.add("places " + bits);
        }

        void go() {
            for (int i = 0; i < CALLS && wrong < 10; i++) {
                one();
                if (random.nextInt(10) == 0) {
                    check("look", program.look(0), model.look(0), 0);
                }
            }
        }

        private int someTerm() {
            int many = program.look(0);
            return many == 0 || random.nextInt(40) == 0 ? random.nextInt(60) - 5 : random.nextInt(many);
        }

        private int oneOf(int many) {
            return random.nextInt(40) == 0 ? random.nextInt(20) - 7 : random.nextInt(many);
        }

        private void one() {
            int a = someTerm();
            int b = someTerm();
            int kind = random.nextInt(30);
            if (kind < 6 && program.look(0) < mostTerms) {
                int symbol = oneOf(6);
                check("term", call(0, symbol, a, b, 0), model.term(symbol, a, b), symbol, a, b);
            } else if (kind < 9 && program.look(1) < mostRules) {
                check("rule", call(1, a, b, 0, 0), model.rule(a, b), a, b);
            } else if (kind == 9) {
                check("cut", call(2, 0, 0, 0, 0), model.cut());
            } else if (kind < 13) {
                edgeOrMark();
            } else if (kind < 16) {
                int w = oneOf(5);
                check("of", call(5, a, w, 0, 0), model.of(a, w), a, w);
            } else if (kind < 18) {
                int k = random.nextInt(5) == 0 ? random.nextInt(1100) - 50 : random.nextInt(8);
                check("step", call(6, a, k, 0, 0), model.step(a, k), a, k);
            } else {
                ask(kind, a, b);
            }
        }

        private void edgeOrMark() {
            int p = oneOf(6);
            int q = oneOf(6);
            int to = oneOf(6);
            int symbol = oneOf(6);
            boolean on = random.nextInt(3) > 0;
            if (random.nextInt(4) > 0) {
                check("edge", call(3, symbol, p, q, to), model.edge(symbol, p, q, to), symbol, p, q, to);
            } else {
                check("mark", call(4, p, on ? 1 : 0, 0, 0), model.mark(p, on), p, on ? 1 : 0);
            }
        }

        private void ask(int kind, int a, int b) {
            int state = oneOf(6);
            int which = random.nextInt(14) - 2;
            switch (kind) {
                case 18: check("has", call(7, a, 0, 0, 0), model.has(a), a); break;
                case 19: case 20: check("from", call(8, a, 0, 0, 0), model.language(a, true), a); break;
                case 21: case 22: check("into", call(9, a, 0, 0, 0), model.language(a, false), a); break;
                case 23: check("least", call(10, a, 0, 0, 0), model.least(a), a); break;
                case 24: check("lightest", call(11, state, 0, 0, 0), model.lightest(state), state); break;
                case 25: check("look", call(12, which, 0, 0, 0), model.look(which), which); break;
                case 26: check("meet", call(13, a, b, 0, 0), model.meet(a, b), a, b); break;
                case 27: check("reaches", call(14, a, b, 0, 0), model.reaches(a, b), a, b); break;
                default: askDistance(a, b); break;
            }
        }

        /** Most pairs of terms are not reached from one another, so another second one is looked for. */
        private void askDistance(int s, int t) {
            int far = t;
            for (int i = 0; i < 20 && model.isTerm(s) && model.isTerm(far) && (far == s || !program.reaches(s, far)); i++) {
                far = someTerm();
            }
            check("distance", call(15, s, far, 0, 0), model.distance(s, far, program), s, far);
        }

        private Outcome call(int which, int a, int b, int c, int d) {
            try {
                switch (which) {
                    case 0: return answer(program.term(a, b, c));
                    case 1: return answer(program.rule(a, b));
                    case 2: return answer(program.cut());
                    case 3: return answer(program.edge(a, b, c, d));
                    case 4: return answer(program.mark(a, b == 1));
                    case 5: return answer(program.of(a, b));
                    case 6: return answer(program.step(a, b));
                    case 7: return answer(program.has(a));
                    case 8: return answer(program.from(a));
                    case 9: return answer(program.into(a));
                    case 10: return answer(program.least(a));
                    case 11: return answer(program.lightest(a));
                    case 12: return answer(program.look(a));
                    case 13: return answer(program.meet(a, b));
                    case 14: return answer(program.reaches(a, b));
                    default: return answer(program.distance(a, b));
                }
            } catch (IllegalArgumentException e) {
                return thrown(IAE);
            } catch (IllegalStateException e) {
                return thrown(ISE);
            } catch (IndexOutOfBoundsException e) {
                // An exception that the virtual machine throws by itself is a class below this one.
                return thrown(e.getClass() == IndexOutOfBoundsException.class ? IOOBE : 9);
            }
        }

        private void check(String name, int got, Outcome due, int... arguments) {
            check(name, answer(got), due, arguments);
        }

        private void check(String name, Outcome got, Outcome due, int... arguments) {
            String call = name + java.util.Arrays.toString(arguments) + " = " + got;
            calls.add(call);
            String kind = due == null ? "unknown" : due.thrown != 0 ? due.toString() : due.value > 9 ? "more" : "" + due.value;
            seen.merge(name + " " + kind, 1, Integer::sum);
            if (due == null) {
                return;
            }
            compared++;
            if (!got.equals(due)) {
                wrong++;
                System.out.println("run " + seed + ": " + call + ", due is " + due + ", after " + calls);
            }
        }
    }
}
