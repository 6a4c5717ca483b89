import java.util.ArrayList;
import java.util.HashMap;
import java.util.List;
import java.util.Map;

/**
 * Each sentence of the document that names a boundary case: both sides of the boundary, and that a refused call changes
 * nothing. A method begins with its sentence, and what fails is told with it.
 */
public final class BoundaryTest {
    /** Symbols 0 and 1 without places, 2 and 3 with one, 4 and 5 with two. */
    private static final int USUAL = 2640;
    private static final int A = 0;
    private static final int B = 1;
    private static final int G = 2;
    private static final int H = 3;
    private static final int F = 4;
    private static final int K = 5;
    private static final int MIN = Integer.MIN_VALUE;
    private static final int MAX = Integer.MAX_VALUE;
    private static final int BILLION = 1000000000;
    private static final int NONE = GroundReach.NONE;
    private static final int TOO_MANY = -2;
    private static final int TRUE = 1;
    private static final int FALSE = 0;

    /** What a call that throws is said to answer; no call answers these numbers. */
    private static final int ARGUMENT = -1001;
    private static final int STATE = -1002;
    private static final int INDEX = -1003;
    private static final int ANOTHER = -1004;

    /** With the calls that make the object they stay below the 512 that the document allows. */
    private static final int ASKED_OF_ONE = 380;

    private interface Scene {
        GroundReach make();
    }

    private interface Ask {
        int of(GroundReach x);
    }

    private static String sentence = "";
    private static int sentences = 0;
    private static int checks = 0;
    private static int wrong = 0;
    private static final Map<Scene, List<Integer>> UNTOUCHED = new HashMap<>();
    private static final Map<Scene, List<List<Ask>>> ASKED = new HashMap<>();

    public static void main(String[] args) {
        theTerms();
        newObject();
        term();
        of();
        rule();
        cut();
        edge();
        mark();
        relations();
        languages();
        sizes();
        step();
        distance();
        look();
        answersAreNoChanges();
        System.out.println(sentences + " sentences, " + checks + " checks, " + wrong + " wrong");
        if (wrong != 0) {
            System.exit(1);
        }
    }

    // ---- how it is checked

    private static void says(String words) {
        sentence = words;
        sentences++;
    }

    private static int ask(GroundReach x, Ask call) {
        try {
            return call.of(x);
        } catch (RuntimeException e) {
            Class<?> kind = e.getClass();
            return kind == IllegalArgumentException.class ? ARGUMENT : kind == IllegalStateException.class ? STATE
                : kind == IndexOutOfBoundsException.class ? INDEX : ANOTHER;
        }
    }

    private static int bit(boolean answer) {
        return answer ? TRUE : FALSE;
    }

    private static void due(String call, int got, int want) {
        checks++;
        if (got != want) {
            wrong++;
            System.out.println("'" + sentence + "': " + call + " answered " + got + ", due is " + want);
        }
    }

    private static void due(GroundReach x, String call, Ask asked, int want) {
        due(call, ask(x, asked), want);
    }

    /** On a new object, so that the calls of one sentence do not touch one another. */
    private static void due(Scene scene, String call, Ask asked, int want) {
        due(call, ask(scene.make(), asked), want);
    }

    /** The call answers so, and whatever can be asked afterwards is answered as if it had not been made. */
    private static void refused(Scene scene, String call, Ask asked, int want) {
        due(scene, call, asked, want);
        if (!ASKED.containsKey(scene)) {
            ASKED.put(scene, groups(scene));
            UNTOUCHED.put(scene, allAnswers(scene, x -> 0));
        }
        List<Integer> touched = allAnswers(scene, asked);
        checks++;
        if (!touched.equals(UNTOUCHED.get(scene))) {
            wrong++;
            System.out.println("'" + sentence + "': " + call + " has changed the object");
        }
    }

    private static List<Integer> allAnswers(Scene scene, Ask before) {
        int terms = scene.make().look(0);
        List<Integer> answers = new ArrayList<>();
        for (List<Ask> asked : ASKED.get(scene)) {
            GroundReach x = scene.make();
            askAtEach(x, terms);
            ask(x, before);
            for (Ask one : asked) {
                answers.add(ask(x, one));
            }
        }
        return answers;
    }

    /** What an object remembers of earlier questions must not go wrong either. */
    private static void askAtEach(GroundReach x, int terms) {
        if (terms > 0) {
            ask(x, y -> bit(y.meet(0, terms - 1)));
            ask(x, y -> bit(y.from(terms - 1)));
            ask(x, y -> bit(y.into(terms - 1)));
            ask(x, y -> y.least(terms - 1));
            ask(x, y -> y.distance(0, terms - 1));
        }
    }

    private static List<List<Ask>> groups(Scene scene) {
        int terms = scene.make().look(0);
        List<List<Ask>> groups = new ArrayList<>();
        groups.add(askedOfKnownTransitions(scene));
        split(groups, askedOfTerms(terms));
        split(groups, askedOfPairs(terms));
        split(groups, askedOfTransitions());
        groups.add(askedOfRules(terms));
        groups.add(askedOfRoom(terms));
        groups.add(askedOfSteps(terms));
        return groups;
    }

    private static void split(List<List<Ask>> groups, List<Ask> asked) {
        for (int i = 0; i < asked.size(); i += ASKED_OF_ONE) {
            groups.add(asked.subList(i, Math.min(asked.size(), i + ASKED_OF_ONE)));
        }
    }

    private static List<Ask> askedOfTerms(int terms) {
        List<Ask> asked = new ArrayList<>();
        for (int i = -1; i <= 10; i++) {
            int which = i;
            asked.add(x -> x.look(which));
        }
        for (int state = 0; state < 6; state++) {
            int one = state;
            asked.add(x -> x.lightest(one));
        }
        for (int i = 0; i <= terms; i++) {
            int t = i;
            for (int j = 0; j < 5; j++) {
                int w = j;
                asked.add(x -> x.of(t, w));
            }
            asked.add(x -> bit(x.has(t)));
            asked.add(x -> bit(x.from(t)));
            asked.add(x -> bit(x.into(t)));
            asked.add(x -> x.least(t));
        }
        return asked;
    }

    /** All pairs of few terms; of many, those of some rows. */
    private static List<Ask> askedOfPairs(int terms) {
        List<Ask> asked = new ArrayList<>();
        for (int i = 0; i < terms; i += 1 + terms / 12) {
            int s = i;
            for (int j = 0; j < terms; j++) {
                int t = j;
                asked.add(x -> bit(x.reaches(s, t)));
                asked.add(x -> bit(x.meet(t, s)));
                asked.add(x -> x.distance(s, t));
            }
        }
        return asked;
    }

    /** False for those that there are, true or an exception for the others. */
    private static List<Ask> askedOfTransitions() {
        List<Ask> asked = new ArrayList<>();
        for (int i = 0; i < 6 * 6 * 6 * 6; i++) {
            int symbol = i / 216;
            int p = i / 36 % 6;
            int q = i / 6 % 6;
            int to = i % 6;
            if ((symbol >= G || p == 0) && (symbol >= F || q == 0)) {
                asked.add(x -> bit(x.edge(symbol, p, q, to)));
            }
        }
        return asked;
    }

    /** These first, as long as no refused one of the others could hide what has happened. */
    private static List<Ask> askedOfKnownTransitions(Scene scene) {
        List<Ask> asked = new ArrayList<>();
        for (Ask one : askedOfTransitions()) {
            if (ask(scene.make(), one) == FALSE) {
                asked.add(one);
            }
        }
        asked.add(x -> x.look(2));
        return asked;
    }

    /** The rules go one by one; then there is room for eight. */
    private static List<Ask> askedOfRules(int terms) {
        List<Ask> asked = new ArrayList<>();
        for (int i = 0; i < 9; i++) {
            asked.add(x -> bit(x.cut()));
            for (int j = 0; j < terms; j += 1 + terms / 12) {
                int t = j;
                asked.add(x -> x.of(t, 4));
                asked.add(x -> bit(x.reaches(t, 0)));
            }
        }
        for (int i = 0; i < 9; i++) {
            asked.add(x -> x.rule(1, 0));
        }
        return asked;
    }

    /** Each term is found again, and new ones get the next numbers while there is room. */
    private static List<Ask> askedOfRoom(int terms) {
        List<Ask> asked = new ArrayList<>();
        for (int i = 0; i < terms; i++) {
            int t = i;
            asked.add(x -> x.term(x.of(t, 0), x.of(t, 1), x.of(t, 2)));
        }
        for (int i = 0; i < 24; i++) {
            int t = i;
            asked.add(x -> x.term(G, t, 0));
            asked.add(x -> x.term(H, t, 0));
            asked.add(x -> x.term(F, t, 0));
        }
        for (int i = 0; i < 6; i++) {
            int state = i;
            asked.add(x -> bit(x.mark(state, true)));
        }
        asked.add(x -> x.look(0));
        return asked;
    }

    private static List<Ask> askedOfSteps(int terms) {
        List<Ask> asked = new ArrayList<>();
        for (int i = 0; i < terms; i++) {
            int t = i;
            for (int j = 0; j < 4; j++) {
                int k = j;
                asked.add(x -> x.step(t, k));
            }
        }
        asked.add(x -> x.look(0));
        return asked;
    }

    // ---- what is asked of

    private static final Scene EMPTY = () -> new GroundReach(USUAL);

    /** 0: a, 1: b, 2: g(a), 3: g(b), 4: f(a, b), 5: f(g(a), b), 6: k(5, 5), 7: h(6). */
    private static final int FEW_TERMS = 8;

    /** A bit of everything, and room for more of it. */
    private static final Scene FEW = () -> {
        GroundReach x = fewTerms();
        x.rule(0, 1);
        x.rule(3, 0);
        x.rule(0, 2);
        fewEdges(x);
        return x;
    };

    private static GroundReach fewTerms() {
        GroundReach x = new GroundReach(USUAL);
        x.term(A, 0, 0);
        x.term(B, 0, 0);
        x.term(G, 0, 0);
        x.term(G, 1, 0);
        x.term(F, 0, 1);
        x.term(F, 2, 1);
        x.term(K, 5, 5);
        x.term(H, 6, 0);
        return x;
    }

    private static void fewEdges(GroundReach x) {
        x.edge(A, 0, 0, 0);
        x.edge(B, 0, 0, 1);
        x.edge(G, 1, 0, 2);
        x.edge(F, 2, 1, 3);
        x.edge(K, 3, 3, 4);
        x.mark(1, true);
        x.mark(4, true);
    }

    /** As many terms as are wanted, h(..h(7)..) behind those of FEW. */
    private static GroundReach terms(int wanted) {
        GroundReach x = FEW.make();
        tower(x, H, FEW_TERMS - 1, wanted - FEW_TERMS);
        return x;
    }

    private static final Scene TERMS_47 = () -> terms(47);
    private static final Scene TERMS_48 = () -> terms(48);

    private static GroundReach rules(int wanted) {
        GroundReach x = fewTerms();
        fewEdges(x);
        for (int r = 0; r < wanted; r++) {
            x.rule(r % 4, 4 + r / 4);
        }
        return x;
    }

    private static final Scene RULES_7 = () -> rules(7);
    private static final Scene RULES_8 = () -> rules(8);

    /** Behind those of FEW come g from p to q. */
    private static GroundReach edges(int wanted) {
        GroundReach x = FEW.make();
        for (int e = 5; e < wanted; e++) {
            x.edge(H, (e - 5) / 6, 0, (e - 5) % 6);
        }
        return x;
    }

    private static final Scene EDGES_19 = () -> edges(19);
    private static final Scene EDGES_20 = () -> edges(20);

    private static int tower(GroundReach x, int symbol, int base, int height) {
        int top = base;
        for (int i = 0; i < height; i++) {
            top = x.term(symbol, top, top);
        }
        return top;
    }

    /** A term with t in it that often, as far as 48 terms go. */
    private static int times(GroundReach x, int t, int factor) {
        int whole = t;
        for (int digit = 30 - Integer.numberOfLeadingZeros(factor); digit >= 0; digit--) {
            whole = x.term(F, whole, whole);
            whole = (factor >> digit & 1) == 0 ? whole : x.term(F, whole, t);
        }
        return whole;
    }

    /** A term of a size, made of g and of f with the same part twice. */
    private static int ofSize(GroundReach x, int size) {
        int[] way = new int[64];
        int length = 0;
        for (int rest = size; rest > 1; rest = rest % 2 == 0 ? rest - 1 : (rest - 1) / 2) {
            way[length++] = rest;
        }
        int t = x.term(A, 0, 0);
        while (length > 0) {
            length--;
            t = way[length] % 2 == 0 ? x.term(G, t, 0) : x.term(F, t, t);
        }
        return t;
    }

    // ---- Terms

    private static void theTerms() {
        symbolsAndStates();
        termsHaveNumbers();
        alsoItself();
        eachTimeThatTheyStandInIt();
        levels();
        callsUpTo512();
    }

    private static void symbolsAndStates() {
        says("SYMBOLS 0 .. 5");
        GroundReach x = new GroundReach(0);
        for (int symbol = 0; symbol < 6; symbol++) {
            due("term of symbol " + symbol, x.term(symbol, -1, -1), symbol);
            due("of it", x.of(symbol, 0), symbol);
        }
        says("STATES 0 .. 5, some of which are FINAL (none at first)");
        due("final states", x.look(3), 0);
        for (int state = 0; state < 6; state++) {
            due("edge to " + state, bit(x.edge(state, -1, -1, state)), TRUE);
            due("not final at first " + state, bit(x.has(state)), FALSE);
            due("mark " + state, bit(x.mark(state, true)), TRUE);
            due("final " + state, bit(x.has(state)), TRUE);
        }
        due("all final", x.look(3), 63);
    }

    private static void termsHaveNumbers() {
        says("Terms that were made have numbers 0, 1, .., at most 48 of them, each once");
        GroundReach x = new GroundReach(USUAL);
        int t = x.term(A, 0, 0);
        due("the first", t, 0);
        for (int i = 1; i < 48; i++) {
            t = x.term(G, t, 0);
            due("number", t, i);
            due("part made before it", x.of(t, 1), i - 1);
        }
        due("all 48", x.look(0), 48);
        for (int i = 1; i < 48; i++) {
            due("once", x.term(G, i - 1, 0), i);
        }
        due("still 48", x.look(0), 48);
    }

    private static void alsoItself() {
        says("A term REACHES another one, also itself, if a row of steps (perhaps none) leads from it to that one");
        GroundReach x = fewTerms();
        for (int s = 0; s < FEW_TERMS; s++) {
            for (int t = 0; t < FEW_TERMS; t++) {
                due("reaches(" + s + ", " + t + ") without rules", bit(x.reaches(s, t)), bit(s == t));
                due("meet(" + s + ", " + t + ") without rules", bit(x.meet(s, t)), bit(s == t));
                due("distance(" + s + ", " + t + ") without rules", x.distance(s, t), s == t ? 0 : NONE);
            }
        }
        x.rule(7, 0);
        due("all of it", bit(x.reaches(7, 0)), TRUE);
        due("not what is in it", bit(x.reaches(6, 0)), FALSE);
        x.rule(5, 4);
        due("two parts, one after the other", bit(x.reaches(6, x.term(K, 4, 4))), TRUE);
        due("one of two", bit(x.reaches(6, x.term(K, 4, 5))), TRUE);
        due("part and whole", bit(x.reaches(7, x.term(H, x.term(K, 5, 4), 0))), TRUE);
    }

    private static void eachTimeThatTheyStandInIt() {
        says("all of it first, then its first part with all that is in it, .., each time that they stand in it;"
            + " of each by the rules' numbers");
        GroundReach x = fewTerms();
        x.rule(1, 0);
        x.rule(5, 4);
        x.rule(1, 3);
        x.rule(6, 7);
        int twice = x.term(F, 1, 1);
        due("of(b, 4)", x.of(1, 4), 2);
        due("of(f(b, b), 4)", x.of(twice, 4), 4);
        due("of(k(f(g(a), b), f(g(a), b)), 4)", x.of(6, 4), 7);
        int[] first = {NONE, 4, x.term(F, 2, 0), x.term(F, 2, 3), 5, 5, 5};
        int[] second = {NONE, 5, 5, 5, 4, x.term(F, 2, 0), x.term(F, 2, 3)};
        due("step 0 is all of it", x.step(6, 0), 7);
        for (int k = 1; k < 7; k++) {
            int to = x.step(6, k);
            due("first of step " + k, x.of(to, 1), first[k]);
            due("second of step " + k, x.of(to, 2), second[k]);
        }
        due(x, "step 7", y -> y.step(6, 7), INDEX);
    }

    private static void levels() {
        says("level 0 of a term has that alone; each further level .. that are in no earlier level");
        GroundReach x = fewTerms();
        x.rule(0, 1);
        x.rule(1, 2);
        x.rule(2, 0);
        x.rule(0, 3);
        due("distance(a, a), though a row of steps leads back", x.distance(0, 0), 0);
        due("distance(a, b)", x.distance(0, 1), 1);
        due("distance(a, g(b)), also in a later one", x.distance(0, 3), 1);
        due("distance(b, b)", x.distance(1, 1), 0);
        due("distance(b, a)", x.distance(1, 0), 2);
        due("distance(b, g(b)), inside and by the root", x.distance(1, 3), 2);
        x.cut();
        x.cut();
        due("distance(b, g(b)) without the way back", x.distance(1, 3), 2);
        due("distance(b, a)", x.distance(1, 0), NONE);
    }

    private static void callsUpTo512() {
        says("An object is used for at most 512 calls after it has been made");
        GroundReach x = new GroundReach(USUAL);
        int a = x.term(A, 0, 0);
        int b = x.term(B, 0, 0);
        int ga = x.term(G, a, 0);
        for (int calls = 3; calls < 511; calls += 4) {
            int to = calls % 8 == 3 ? b : ga;
            due("rule before call " + calls, x.rule(a, to), 0);
            due("reaches before call " + calls, bit(x.reaches(a, b)), bit(to == b));
            due("cut before call " + calls, bit(x.cut()), TRUE);
            due("reaches before call " + calls, bit(x.reaches(a, to)), FALSE);
        }
        due("call 512", x.look(0), 3);
    }

    // ---- Promise 1

    private static void newObject() {
        placesAreTwoBits();
        otherBitsSayNothing();
        noTermsRulesOrTransitions();
    }

    private static void placesAreTwoBits() {
        says("1: as many places as the two bits 2 * k, 2 * k + 1 of places (the lower one 2 * k) say, but 2 for 3");
        for (int k = 0; k < 6; k++) {
            for (int bits = 0; bits < 4; bits++) {
                int places = Math.min(bits, 2);
                GroundReach alone = new GroundReach(bits << 2 * k);
                GroundReach amongOthers = new GroundReach(-1 ^ (3 ^ bits) << 2 * k);
                for (int other = 0; other < 6; other++) {
                    due("places of " + other, alone.look(4 + other), other == k ? places : 0);
                    due("places of " + other, amongOthers.look(4 + other), other == k ? places : 2);
                }
                placesAreAsked(alone, k, places);
            }
        }
    }

    private static void placesAreAsked(GroundReach x, int symbol, int places) {
        int part = x.term((symbol + 1) % 6, -1, -1);
        due(x, "first asked", y -> y.term(symbol, 9, places < 1 ? 9 : part), places < 1 ? 1 : ARGUMENT);
        due(x, "second asked", y -> y.term(symbol, part, 9), places < 2 ? 1 : ARGUMENT);
        due(x, "none is missing", y -> y.term(symbol, part, part), 1);
        due("first", x.of(1, 1), places < 1 ? NONE : part);
        due("second", x.of(1, 2), places < 2 ? NONE : part);
        due("size", x.of(1, 3), 1 + places);
        due(x, "first state asked", y -> bit(y.edge(symbol, 6, 0, 0)), places < 1 ? TRUE : ARGUMENT);
        due(x, "second state asked", y -> bit(y.edge(symbol, 1, 6, 1)), places < 2 ? TRUE : ARGUMENT);
    }

    private static void otherBitsSayNothing() {
        says("1: the bits above those of symbol 5 say nothing");
        int[] given = {MIN, MAX, -1, 1 << 12, ~0xfff, 0xfff, 1 << 11, 0};
        int[] ofFive = {0, 2, 2, 0, 0, 2, 2, 0};
        int[] ofNought = {0, 2, 2, 0, 0, 2, 0, 0};
        for (int i = 0; i < given.length; i++) {
            due("places of 5 by " + given[i], new GroundReach(given[i]).look(9), ofFive[i]);
            due("places of 0 by " + given[i], new GroundReach(given[i]).look(4), ofNought[i]);
        }
    }

    private static void noTermsRulesOrTransitions() {
        says("1: No terms, rules or transitions");
        GroundReach other = FEW.make();
        for (int which = 0; which < 4; which++) {
            due(EMPTY, "look", at(which, (x, w) -> x.look(w)), 0);
        }
        due("look of the other object", other.look(0), FEW_TERMS);
        refused(EMPTY, "of(0, 0)", x -> x.of(0, 0), NONE);
        refused(EMPTY, "cut()", x -> bit(x.cut()), FALSE);
        for (int state = 0; state < 6; state++) {
            refused(EMPTY, "lightest", at(state, (x, q) -> x.lightest(q)), NONE);
        }
        GroundReach x = EMPTY.make();
        due("the first term", x.term(B, 0, 0), 0);
        due("the second term", x.term(A, 0, 0), 1);
        due("the first rule", x.rule(1, 0), 0);
        due("the first transition", bit(x.edge(A, 0, 0, 0)), TRUE);
        due("terms", x.look(0), 2);
        due("rules", x.look(1), 1);
        due("transitions", x.look(2), 1);
    }

    private interface Call {
        int of(GroundReach x, int argument);
    }

    private static Ask at(int argument, Call call) {
        return x -> call.of(x, argument);
    }

    /** Refused outside 0 .. count - 1, and taken at both ends of that. */
    private static void onlyBelow(int count, Scene scene, String name, Call call, int refusal) {
        for (int no : new int[] {-1, count, count + 1, 32, 64, -32, -64, MIN, MAX}) {
            if (no < 0 || no >= count) {
                refused(scene, name + " with " + no, at(no, call), refusal);
            }
        }
        for (int yes : new int[] {0, count - 1}) {
            int got = ask(scene.make(), at(yes, call));
            due(name + " refused with " + yes, bit(got <= ARGUMENT), FALSE);
        }
    }

    // ---- Promise 2

    private static void term() {
        placesThatItHasNot();
        madeBefore();
        says("2: IllegalArgumentException if there is no such symbol");
        onlyBelow(6, FEW, "term(s, 0, 0)", (x, s) -> x.term(s, 0, 0), ARGUMENT);
        refused(EMPTY, "term(6, 0, 0)", x -> x.term(6, 0, 0), ARGUMENT);
        refused(TERMS_48, "term(6, 0, 0)", x -> x.term(6, 0, 0), ARGUMENT);
        noSuchPart();
        fortyEightOthers();
    }

    private static void placesThatItHasNot() {
        says("2: the terms a, b in its places (those that it has not are not asked)");
        GroundReach x = EMPTY.make();
        due("term(b, -1, 1)", x.term(B, -1, 1), 0);
        due("term(b, MIN, MAX)", x.term(B, MIN, MAX), 0);
        due("term(g, 0, -1)", x.term(G, 0, -1), 1);
        due("term(g, 0, 48)", x.term(G, 0, 48), 1);
        due("term(g, 0, 0)", x.term(G, 0, 0), 1);
        due("no second place", x.of(1, 2), NONE);
        due("no first place", x.of(0, 1), NONE);
        due("term(f, 0, 1)", x.term(F, 0, 1), 2);
        due("term(f, 0, 0)", x.term(F, 0, 0), 3);
        due(x, "term(f, 0, 4), which is asked", y -> y.term(F, 0, 4), ARGUMENT);
        due(x, "term(g, 4, 0), which is asked", y -> y.term(G, 4, 0), ARGUMENT);
        due("terms", x.look(0), 4);
    }

    private static void madeBefore() {
        says("2: its number, also if it was made before");
        GroundReach x = FEW.make();
        for (int t = 0; t < FEW_TERMS; t++) {
            due("the same again", x.term(x.of(t, 0), x.of(t, 1), x.of(t, 2)), t);
        }
        due("terms", x.look(0), FEW_TERMS);
        due("other parts", x.term(F, 1, 0), 8);
        due("other first", x.term(F, 1, 1), 9);
        due("other second", x.term(F, 0, 0), 10);
        due("other symbol", x.term(K, 0, 1), 11);
        int made = x.step(6, 0);
        due("made by step", x.term(K, x.of(made, 1), x.of(made, 2)), made);
        GroundReach full = TERMS_48.make();
        for (int t = 0; t < 48; t++) {
            due("the same among 48", full.term(full.of(t, 0), full.of(t, 1), full.of(t, 2)), t);
        }
        due("terms", full.look(0), 48);
    }

    private static void noSuchPart() {
        says("2: IllegalArgumentException if there is no such .. term");
        onlyBelow(FEW_TERMS, FEW, "term(g, a, 0)", (x, a) -> x.term(G, a, 0), ARGUMENT);
        onlyBelow(FEW_TERMS, FEW, "term(f, a, 0)", (x, a) -> x.term(F, a, 0), ARGUMENT);
        onlyBelow(FEW_TERMS, FEW, "term(f, 0, b)", (x, b) -> x.term(F, 0, b), ARGUMENT);
        refused(EMPTY, "term(g, 0, 0)", x -> x.term(G, 0, 0), ARGUMENT);
        refused(EMPTY, "term(f, 0, 0)", x -> x.term(F, 0, 0), ARGUMENT);
        refused(TERMS_48, "term(g, 48, 0)", x -> x.term(G, 48, 0), ARGUMENT);
        refused(TERMS_48, "term(f, 0, 48)", x -> x.term(F, 0, 48), ARGUMENT);
        refused(TERMS_47, "term(f, 0, 47)", x -> x.term(F, 0, 47), ARGUMENT);
    }

    private static void fortyEightOthers() {
        says("2: IllegalStateException if there are 48 others");
        due(TERMS_47, "the 48th, f(a, a)", x -> x.term(F, 0, 0), 47);
        due(TERMS_47, "the 48th, of the newest", x -> x.term(G, 46, 0), 47);
        due(TERMS_47, "a known one", x -> x.term(G, 0, 0), 2);
        refused(TERMS_48, "the 49th, f(a, a)", x -> x.term(F, 0, 0), STATE);
        refused(TERMS_48, "the 49th, of the newest", x -> x.term(G, 47, 0), STATE);
        refused(TERMS_48, "the 49th, of the newest twice", x -> x.term(K, 47, 47), STATE);
        due(TERMS_48, "a known one", x -> x.term(G, 0, 0), 2);
        due(TERMS_48, "the newest one", x -> x.term(H, 46, 0), 47);
        Scene constants = () -> {
            GroundReach x = new GroundReach(USUAL);
            tower(x, G, x.term(A, 0, 0), 47);
            return x;
        };
        refused(constants, "the 49th without parts", x -> x.term(B, 0, 0), STATE);
        due(constants, "the known one without parts", x -> x.term(A, 0, 0), 0);
    }

    // ---- Promise 3

    private static void of() {
        sizeIsCut();
        stepsAreCut();
        noSuchTermPlaceOrW();
    }

    private static void sizeIsCut() {
        says("3: its SIZE (1000000000, if that is greater)");
        GroundReach x = EMPTY.make();
        int just = ofSize(x, BILLION);
        int half = x.of(x.of(just, 1), 1);
        int upperHalf = x.term(G, half, 0);
        due("one below", x.of(x.of(just, 1), 3), BILLION - 1);
        due("just so many", x.of(just, 3), BILLION);
        due("one above", x.of(x.term(G, just, 0), 3), BILLION);
        due("half of one below", x.of(half, 3), 499999999);
        due("f of two halves, just so many", x.of(x.term(F, half, upperHalf), 3), BILLION);
        int above = x.term(F, upperHalf, upperHalf);
        due("f of two halves, one above", x.of(above, 3), BILLION);
        due("twice", x.of(x.term(F, above, just), 3), BILLION);
        GroundReach y = EMPTY.make();
        int top = tower(y, F, y.term(A, 0, 0), 47);
        due("as great as it gets", y.of(top, 3), BILLION);
        due("g, as deep as it gets", TERMS_48.make().of(47, 3), 10 + 40);
        says("(a part that stands twice counts twice)");
        due("f(a, a)", y.of(1, 3), 3);
        due("f(f(a, a), f(a, a))", y.of(2, 3), 7);
    }

    /** 999999999 is 3 * 3 * 3 * 3 * 37 * 333667. */
    private static void stepsAreCut() {
        says("3: how many steps it has (likewise)");
        GroundReach x = EMPTY.make();
        int a = x.term(A, 0, 0);
        int b = x.term(B, 0, 0);
        int whole = a;
        for (int factor : new int[] {3, 3, 3, 37, 333667}) {
            whole = times(x, whole, factor);
        }
        int outer = x.term(H, whole, 0);
        due("no rules", x.of(outer, 4), 0);
        for (int i = 1; i <= 3; i++) {
            x.rule(a, b);
            due("rules " + i, x.of(outer, 4), 333333333 * i);
        }
        x.rule(outer, b);
        due("just so many", x.of(outer, 4), BILLION);
        due("one below", x.of(whole, 4), BILLION - 1);
        x.rule(outer, a);
        due("one above", x.of(outer, 4), BILLION);
        due("twice", x.of(x.term(F, outer, outer), 4), BILLION);
        x.cut();
        x.cut();
        due("one below again", x.of(outer, 4), BILLION - 1);
        GroundReach y = EMPTY.make();
        int top = tower(y, F, y.term(A, 0, 0), 46);
        for (int i = 0; i < 8; i++) {
            y.rule(0, y.term(B, 0, 0));
        }
        due("as many as it gets", y.of(top, 4), BILLION);
    }

    private static void noSuchTermPlaceOrW() {
        says("3: NONE if there is no such term, place or w");
        for (int w = 0; w < 5; w++) {
            int asked = w;
            for (int no : new int[] {-1, FEW_TERMS, 48, 64, MIN, MAX}) {
                refused(FEW, "of(" + no + ", " + w + ")", x -> x.of(no, asked), NONE);
            }
            due(EMPTY, "of(0, " + w + ")", x -> x.of(0, asked), NONE);
            due(TERMS_48, "of(48, " + w + ")", x -> x.of(48, asked), NONE);
        }
        for (int w : new int[] {-1, 5, 6, MIN, MAX}) {
            refused(FEW, "of(7, " + w + ")", x -> x.of(7, w), NONE);
            refused(FEW, "of(0, " + w + ")", x -> x.of(0, w), NONE);
        }
        int[][] wanted = {
            {A, NONE, NONE, 1, 2}, {B, NONE, NONE, 1, 0}, {G, 0, NONE, 2, 2}, {G, 1, NONE, 2, 1}, {F, 0, 1, 3, 2},
            {F, 2, 1, 4, 2}, {K, 5, 5, 9, 4}, {H, 6, NONE, 10, 4}};
        for (int t = 0; t < FEW_TERMS; t++) {
            for (int w = 0; w < 5; w++) {
                int term = t;
                due(FEW, "of(" + t + ", " + w + ")", at(w, (x, v) -> x.of(term, v)), wanted[t][w]);
            }
        }
        due(TERMS_48, "of(47, 1)", x -> x.of(47, 1), 46);
    }

    // ---- Promise 4

    private static void rule() {
        says("4: IllegalArgumentException if there are no such terms");
        onlyBelow(FEW_TERMS, FEW, "rule(l, 1)", (x, l) -> x.rule(l, 1), ARGUMENT);
        onlyBelow(FEW_TERMS, FEW, "rule(1, r)", (x, r) -> x.rule(1, r), ARGUMENT);
        refused(EMPTY, "rule(0, 1)", x -> x.rule(0, 1), ARGUMENT);
        refused(RULES_8, "rule(8, 0)", x -> x.rule(8, 0), ARGUMENT);
        refused(RULES_8, "rule(0, 8)", x -> x.rule(0, 8), ARGUMENT);
        says("4: IllegalArgumentException if .. they are the same");
        for (int t = -1; t <= FEW_TERMS; t++) {
            refused(FEW, "rule(" + t + ", " + t + ")", at(t, (x, u) -> x.rule(u, u)), ARGUMENT);
        }
        refused(RULES_8, "rule(0, 0)", x -> x.rule(0, 0), ARGUMENT);
        refused(EMPTY, "rule(0, 0)", x -> x.rule(0, 0), ARGUMENT);
        due(FEW, "rule(1, 0)", x -> x.rule(1, 0), 3);
        eightRules();
    }

    private static void eightRules() {
        says("4: A rule: its number. IllegalStateException if there are 8");
        GroundReach x = fewTerms();
        for (int r = 0; r < 8; r++) {
            due("number", x.rule(6, 5), r);
            due("rules", x.look(1), r + 1);
            due("steps", x.of(6, 4), r + 1);
        }
        due(RULES_7, "the eighth", y -> y.rule(0, 7), 7);
        refused(RULES_8, "the ninth", y -> y.rule(0, 7), STATE);
        refused(RULES_8, "the ninth, as another one", y -> y.rule(0, 4), STATE);
        refused(RULES_8, "the ninth, between the newest", y -> y.rule(7, 6), STATE);
        due(RULES_8, "in the place of one that went", y -> y.cut() ? y.rule(0, 7) : NONE, 7);
    }

    // ---- Promise 5

    private static void cut() {
        says("5: The last rule goes: true; false if there is none");
        refused(EMPTY, "cut()", x -> bit(x.cut()), FALSE);
        refused(BoundaryTest::fewTerms, "cut()", x -> bit(x.cut()), FALSE);
        GroundReach x = RULES_8.make();
        for (int left = 7; left >= 0; left--) {
            due("cut() with " + (left + 1), bit(x.cut()), TRUE);
            due("rules", x.look(1), left);
            for (int t = 0; t < 2; t++) {
                int steps = (left > t ? 1 : 0) + (left > 4 + t ? 1 : 0);
                due("steps of " + t, x.of(t, 4), steps);
                due(x, "first step of " + t, at(t, (y, u) -> y.step(u, 0)), steps < 1 ? INDEX : 4);
                due(x, "second step of " + t, at(t, (y, u) -> y.step(u, 1)), steps < 2 ? INDEX : 5);
                due("reaches(" + t + ", 4)", bit(x.reaches(t, 4)), bit(steps > 0));
            }
        }
        for (int i = 0; i < 2; i++) {
            due("cut() without", bit(x.cut()), FALSE);
            due("rules", x.look(1), 0);
        }
        due("rule again", x.rule(0, 1), 0);
        due("terms", x.look(0), FEW_TERMS);
        due("transitions", x.look(2), 5);
    }

    // ---- Promise 6

    private static void edge() {
        sameTransition();
        says("6: IllegalArgumentException if there is no such symbol");
        onlyBelow(6, FEW, "edge(s, 5, 5, 5)", (x, s) -> bit(x.edge(s, 5, 5, 5)), ARGUMENT);
        refused(EDGES_20, "edge(6, 0, 0, 0)", x -> bit(x.edge(6, 0, 0, 0)), ARGUMENT);
        noSuchState();
        twentyOthers();
    }

    private static void sameTransition() {
        says("6: A transition: true; false if there is the same one");
        int[][] same = {{A, 0, 0, 0}, {A, 5, 4, 0}, {A, -1, 6, 0}, {B, MIN, MAX, 1}, {G, 1, 0, 2}, {G, 1, 5, 2},
            {G, 1, -1, 2}, {F, 2, 1, 3}, {K, 3, 3, 4}};
        int[][] others = {{A, 0, 0, 1}, {B, 0, 0, 0}, {G, 0, 0, 2}, {G, 1, 0, 1}, {H, 1, 0, 2}, {F, 1, 2, 3},
            {F, 2, 2, 3}, {F, 1, 1, 3}, {F, 2, 1, 2}, {K, 2, 1, 3}, {F, 3, 3, 4}};
        for (int[] e : same) {
            refused(FEW, "the same one", x -> bit(x.edge(e[0], e[1], e[2], e[3])), FALSE);
        }
        for (int[] e : others) {
            GroundReach x = FEW.make();
            due("another one", bit(x.edge(e[0], e[1], e[2], e[3])), TRUE);
            due("transitions", x.look(2), 6);
            due("the same one then", bit(x.edge(e[0], e[1], e[2], e[3])), FALSE);
            due("transitions", x.look(2), 6);
        }
    }

    private static void noSuchState() {
        says("6: IllegalArgumentException if there is no such .. state (p, q, as far as the symbol has places)");
        onlyBelow(6, FEW, "edge(b, 0, 0, to)", (x, to) -> bit(x.edge(B, 0, 0, to)), ARGUMENT);
        onlyBelow(6, FEW, "edge(g, 0, 0, to)", (x, to) -> bit(x.edge(G, 0, 0, to)), ARGUMENT);
        onlyBelow(6, FEW, "edge(f, 0, 0, to)", (x, to) -> bit(x.edge(F, 0, 0, to)), ARGUMENT);
        onlyBelow(6, FEW, "edge(g, p, 0, 0)", (x, p) -> bit(x.edge(G, p, 0, 0)), ARGUMENT);
        onlyBelow(6, FEW, "edge(f, p, 0, 0)", (x, p) -> bit(x.edge(F, p, 0, 0)), ARGUMENT);
        onlyBelow(6, FEW, "edge(f, 0, q, 0)", (x, q) -> bit(x.edge(F, 0, q, 0)), ARGUMENT);
        refused(EDGES_20, "edge(f, 0, 6, 0)", x -> bit(x.edge(F, 0, 6, 0)), ARGUMENT);
        refused(EDGES_20, "edge(g, 6, 0, 0)", x -> bit(x.edge(G, 6, 0, 0)), ARGUMENT);
        refused(EDGES_20, "edge(a, 0, 0, 6)", x -> bit(x.edge(A, 0, 0, 6)), ARGUMENT);
        for (int any : new int[] {-1, 6, 32, MIN, MAX}) {
            due(FEW, "p, q of no places", at(any, (x, p) -> bit(x.edge(A, p, p, 5))), TRUE);
            due(FEW, "q of one place", at(any, (x, q) -> bit(x.edge(G, 5, q, 5))), TRUE);
        }
    }

    private static void twentyOthers() {
        says("6: IllegalStateException if there are 20 others");
        due("transitions", EDGES_20.make().look(2), 20);
        due(EDGES_19, "the 20th", x -> bit(x.edge(A, 0, 0, 5)), TRUE);
        due(EDGES_19, "the same one", x -> bit(x.edge(A, 0, 0, 0)), FALSE);
        refused(EDGES_20, "the 21st without places", x -> bit(x.edge(A, 0, 0, 5)), STATE);
        refused(EDGES_20, "the 21st with one", x -> bit(x.edge(G, 0, 0, 5)), STATE);
        refused(EDGES_20, "the 21st with two", x -> bit(x.edge(K, 0, 0, 5)), STATE);
        refused(EDGES_20, "the first again", x -> bit(x.edge(A, -1, -1, 0)), FALSE);
        refused(EDGES_20, "the last again", x -> bit(x.edge(H, 2, -1, 2)), FALSE);
        GroundReach x = EDGES_20.make();
        x.mark(2, true);
        due("the last one counts", bit(x.has(x.term(H, x.term(H, 3, 0), 0))), TRUE);
    }

    // ---- Promise 7

    private static void mark() {
        says("7: A state is final from now on, or not: true; false if it was so");
        for (int state = 0; state < 6; state++) {
            boolean was = state == 1 || state == 4;
            refused(FEW, "mark again " + state, at(state, (x, q) -> bit(x.mark(q, was))), FALSE);
            GroundReach x = FEW.make();
            due("mark otherwise " + state, bit(x.mark(state, !was)), TRUE);
            due("final states", x.look(3), 18 ^ 1 << state);
            due("the same then", bit(x.mark(state, !was)), FALSE);
            due("and back", bit(x.mark(state, was)), TRUE);
            due("final states", x.look(3), 18);
        }
        GroundReach x = FEW.make();
        due("has(b) by the final state 1", bit(x.has(1)), TRUE);
        x.mark(1, false);
        due("has(b) without", bit(x.has(1)), FALSE);
        due("from(g(b)) without", bit(x.from(3)), FALSE);
        says("7: false if .. there is no such state");
        for (int no : new int[] {-1, 6, 7, 31, 32, 33, 36, 64, 65, -31, -32, MIN, MIN + 1, MAX}) {
            refused(FEW, "mark(" + no + ", true)", at(no, (y, q) -> bit(y.mark(q, true))), FALSE);
            refused(FEW, "mark(" + no + ", false)", at(no, (y, q) -> bit(y.mark(q, false))), FALSE);
        }
    }

    // ---- Promises 8 and 9

    private static void relations() {
        says("8: IllegalArgumentException if there are no such terms");
        onlyBelow(FEW_TERMS, FEW, "reaches(s, 0)", (x, s) -> bit(x.reaches(s, 0)), ARGUMENT);
        onlyBelow(FEW_TERMS, FEW, "reaches(0, t)", (x, t) -> bit(x.reaches(0, t)), ARGUMENT);
        onlyBelow(48, TERMS_48, "reaches(s, s)", (x, s) -> bit(x.reaches(s, s)), ARGUMENT);
        refused(EMPTY, "reaches(0, 0)", x -> bit(x.reaches(0, 0)), ARGUMENT);
        due(TERMS_48, "reaches(47, 47)", x -> bit(x.reaches(47, 47)), TRUE);
        due(TERMS_48, "reaches(47, 46)", x -> bit(x.reaches(47, 46)), FALSE);
        says("9: IllegalArgumentException if there are no such terms");
        onlyBelow(FEW_TERMS, FEW, "meet(s, 0)", (x, s) -> bit(x.meet(s, 0)), ARGUMENT);
        onlyBelow(FEW_TERMS, FEW, "meet(0, t)", (x, t) -> bit(x.meet(0, t)), ARGUMENT);
        onlyBelow(48, TERMS_48, "meet(s, s)", (x, s) -> bit(x.meet(s, s)), ARGUMENT);
        refused(EMPTY, "meet(0, 0)", x -> bit(x.meet(0, 0)), ARGUMENT);
        due(TERMS_48, "meet(47, 47)", x -> bit(x.meet(47, 47)), TRUE);
        due(TERMS_48, "meet(47, 46)", x -> bit(x.meet(47, 46)), FALSE);
        ofAnyKind();
    }

    private static void ofAnyKind() {
        says("9: Whether there is a term (of any kind) that both s and t reach");
        GroundReach x = EMPTY.make();
        int a = x.term(A, 0, 0);
        int b = x.term(B, 0, 0);
        int ga = x.term(G, a, 0);
        int hb = x.term(H, b, 0);
        int fab = x.term(F, a, b);
        int fba = x.term(F, b, a);
        x.rule(a, ga);
        x.rule(b, hb);
        due("f(a, b) and f(b, a) grow apart", bit(x.meet(fab, fba)), FALSE);
        x.rule(hb, ga);
        due("f(a, b) and f(b, a), in no made term", bit(x.meet(fab, fba)), TRUE);
        due("neither reaches the other", bit(x.reaches(fab, fba) || x.reaches(fba, fab)), FALSE);
        due("terms", x.look(0), 6);
        x.cut();
        due("apart again", bit(x.meet(fab, fba)), FALSE);
    }

    // ---- Promises 10 to 12

    private static void languages() {
        says("10: IllegalArgumentException if there is no such term");
        onlyBelow(FEW_TERMS, FEW, "has(t)", (x, t) -> bit(x.has(t)), ARGUMENT);
        onlyBelow(48, TERMS_48, "has(t)", (x, t) -> bit(x.has(t)), ARGUMENT);
        refused(EMPTY, "has(0)", x -> bit(x.has(0)), ARGUMENT);
        says("11: IllegalArgumentException if there is no such term");
        onlyBelow(FEW_TERMS, FEW, "from(t)", (x, t) -> bit(x.from(t)), ARGUMENT);
        onlyBelow(48, TERMS_48, "from(t)", (x, t) -> bit(x.from(t)), ARGUMENT);
        refused(EMPTY, "from(0)", x -> bit(x.from(0)), ARGUMENT);
        says("12: IllegalArgumentException if there is no such term");
        onlyBelow(FEW_TERMS, FEW, "into(t)", (x, t) -> bit(x.into(t)), ARGUMENT);
        onlyBelow(48, TERMS_48, "into(t)", (x, t) -> bit(x.into(t)), ARGUMENT);
        refused(EMPTY, "into(0)", x -> bit(x.into(0)), ARGUMENT);
        atAFinalState();
    }

    private static void atAFinalState() {
        says("The LANGUAGE is all terms that are at a final state");
        Scene noneFinal = () -> {
            GroundReach x = FEW.make();
            x.mark(1, false);
            x.mark(4, false);
            return x;
        };
        for (int t = 0; t < FEW_TERMS; t++) {
            refused(noneFinal, "has(" + t + ")", at(t, (x, u) -> bit(x.has(u))), FALSE);
            refused(noneFinal, "from(" + t + ")", at(t, (x, u) -> bit(x.from(u))), FALSE);
            refused(noneFinal, "into(" + t + ")", at(t, (x, u) -> bit(x.into(u))), FALSE);
        }
        due(FEW, "has(b)", x -> bit(x.has(1)), TRUE);
        due(FEW, "has(a)", x -> bit(x.has(0)), FALSE);
        due(FEW, "into(a), by a rule to b", x -> bit(x.into(0)), TRUE);
        due(FEW, "into(6), in both its parts", x -> bit(x.into(6)), TRUE);
        due(FEW, "into(7), for which there is no transition", x -> bit(x.into(7)), FALSE);
        due(FEW, "from(b), itself", x -> bit(x.from(1)), TRUE);
        due(FEW, "from(a)", x -> bit(x.from(0)), FALSE);
        due(FEW, "from(6), from a term that was not made", x -> bit(x.from(6)), TRUE);
        due(FEW, "has(6)", x -> bit(x.has(6)), FALSE);
    }

    // ---- Promises 13 and 14

    private static void sizes() {
        says("13: IllegalArgumentException if there is no such term");
        onlyBelow(FEW_TERMS, FEW, "least(t)", (x, t) -> x.least(t), ARGUMENT);
        onlyBelow(48, TERMS_48, "least(t)", (x, t) -> x.least(t), ARGUMENT);
        refused(EMPTY, "least(0)", x -> x.least(0), ARGUMENT);
        leastIsCut();
        says("14: IllegalArgumentException if there is no such state");
        Scene allStates = () -> {
            GroundReach x = FEW.make();
            x.edge(B, 0, 0, 5);
            return x;
        };
        onlyBelow(6, allStates, "lightest(q)", (x, q) -> x.lightest(q), ARGUMENT);
        onlyBelow(6, EDGES_20, "lightest(q)", (x, q) -> x.lightest(q), ARGUMENT);
        noneIsAtAState();
    }

    private static void leastIsCut() {
        says("13: The least SIZE of a term that t reaches (1000000000, if that is greater)");
        GroundReach x = EMPTY.make();
        int just = ofSize(x, BILLION);
        int below = x.of(just, 1);
        int half = x.of(below, 1);
        int upperHalf = x.term(G, half, 0);
        int above = x.term(G, just, 0);
        int twoHalves = x.term(F, upperHalf, upperHalf);
        due("one below", x.least(below), BILLION - 1);
        due("just so many", x.least(just), BILLION);
        due("one above", x.least(above), BILLION);
        due("two halves, one above", x.least(twoHalves), BILLION);
        x.rule(upperHalf, half);
        due("two halves, each one less", x.least(twoHalves), BILLION - 1);
        due("what does not change stays", x.least(above), BILLION);
        x.cut();
        x.rule(below, above);
        due("just so many, and only more to be reached", x.least(just), BILLION);
        due("one below, and only more to be reached", x.least(below), BILLION - 1);
        x.rule(above, half);
        due("through a greater one to a less one", x.least(just), 500000000);
        due("itself", x.least(half), 499999999);
    }

    private static void noneIsAtAState() {
        says("14: The least SIZE of a term that is at a state; NONE if none is");
        GroundReach x = EMPTY.make();
        due("no transitions", x.lightest(0), NONE);
        x.edge(G, 0, 0, 0);
        due("only from itself", x.lightest(0), NONE);
        x.edge(F, 1, 0, 1);
        x.edge(A, 0, 0, 1);
        due("one of two parts is missing", x.lightest(1), 1);
        x.edge(F, 1, 0, 2);
        due("the second part is missing", x.lightest(2), NONE);
        x.edge(F, 0, 1, 3);
        due("the first part is missing", x.lightest(3), NONE);
        x.edge(G, 1, 0, 0);
        due("not missing", x.lightest(0), 2);
        due("second not missing", x.lightest(2), 4);
        due("first not missing", x.lightest(3), 4);
        due("still none", x.lightest(5), NONE);
        says("14: (1000000000, if it is greater): with six states it is 63 at most");
        GroundReach y = EMPTY.make();
        y.edge(A, 0, 0, 0);
        for (int q = 0; q < 5; q++) {
            y.edge(F, q, q, q + 1);
        }
        due("the greatest that there is", y.lightest(5), 63);
        due("final or not", y.mark(5, true) ? y.lightest(5) : NONE, 63);
    }

    // ---- Promise 15

    private static void step() {
        madeBehindItsParts();
        noSuchStep();
        above999();
        moreThan48();
    }

    private static void madeBehindItsParts() {
        says("15: (it and its parts are made, as far as they were not, each behind its own parts)");
        GroundReach x = fewTerms();
        x.rule(0, 1);
        due("step(a, 0), which is made", x.step(0, 0), 1);
        due("step(g(a), 0), which is made", x.step(2, 0), 3);
        due("terms", x.look(0), FEW_TERMS);
        due("step(7, 0), with three new ones", x.step(7, 0), 10);
        int[][] behind = {{F, 3, 1}, {K, 8, 5}, {H, 9, NONE}};
        for (int i = 0; i < 3; i++) {
            for (int w = 0; w < 3; w++) {
                due("of(" + (8 + i) + ", " + w + ")", x.of(8 + i, w), behind[i][w]);
            }
        }
        due("terms", x.look(0), 11);
        due("step(7, 0) again", x.step(7, 0), 10);
        due("step(6, 0), a part of it", x.step(6, 0), 9);
        due("terms", x.look(0), 11);
        due("step(7, 1), with two new ones", x.step(7, 1), 12);
        due("the first of them", x.of(11, 2), 8);
        due("terms", x.look(0), 13);
    }

    private static void noSuchStep() {
        says("15: IndexOutOfBoundsException if there is no such term");
        onlyBelow(FEW_TERMS, FEW, "step(t, 0)", (x, t) -> x.step(t, 0), INDEX);
        refused(EMPTY, "step(0, 0)", x -> x.step(0, 0), INDEX);
        refused(TERMS_48, "step(48, 0)", x -> x.step(48, 0), INDEX);
        says("15: IndexOutOfBoundsException if there is no such .. step");
        due("steps", FEW.make().of(7, 4), 4);
        onlyBelow(4, FEW, "step(7, k)", (x, k) -> x.step(7, k), INDEX);
        onlyBelow(2, FEW, "step(a, k)", (x, k) -> x.step(0, k), INDEX);
        onlyBelow(1, FEW, "step(g(b), k)", (x, k) -> x.step(3, k), INDEX);
        refused(FEW, "step(b, 0)", x -> x.step(1, 0), INDEX);
        refused(BoundaryTest::fewTerms, "step(7, 0) without rules", x -> x.step(7, 0), INDEX);
        refused(TERMS_48, "step(7, 4)", x -> x.step(7, 4), INDEX);
        refused(TERMS_48, "step(b, 0)", x -> x.step(1, 0), INDEX);
    }

    /** The last term has so many steps, all of them from a to b. */
    private static GroundReach withSteps(int wanted) {
        GroundReach x = new GroundReach(USUAL);
        int a = x.term(A, 0, 0);
        x.rule(a, x.term(B, 0, 0));
        times(x, a, wanted);
        return x;
    }

    private static void above999() {
        says("15: IndexOutOfBoundsException if .. k is above 999");
        for (int many : new int[] {998, 999, 1000, 1001, 1002, 1 << 22}) {
            Scene scene = () -> withSteps(many);
            int terms = scene.make().look(0);
            int whole = terms - 1;
            due("steps", scene.make().of(whole, 4), many);
            for (int k = 997; k <= 1002; k++) {
                String call = "step " + k + " of " + many;
                if (k <= 999 && k < many) {
                    due(call + " refused", bit(ask(scene.make(), at(k, (x, i) -> x.step(whole, i))) < terms), FALSE);
                } else {
                    refused(scene, call, at(k, (x, i) -> x.step(whole, i)), INDEX);
                }
            }
        }
        Scene full = () -> {
            GroundReach x = withSteps(1001);
            x.step(x.look(0) - 1, 999);
            tower(x, H, 0, 48 - x.look(0));
            return x;
        };
        int whole = withSteps(1001).look(0) - 1;
        int to = withSteps(1001).step(whole, 999);
        due("terms", full.make().look(0), 48);
        due(full, "step 999 to a known one", x -> x.step(whole, 999), to);
        refused(full, "step 998 without room", x -> x.step(whole, 998), STATE);
        refused(full, "step 1000 without room", x -> x.step(whole, 1000), INDEX);
    }

    private static void moreThan48() {
        says("15: IllegalStateException if there would be more than 48 terms");
        due(() -> terms(45), "three more make 48", x -> x.step(7, 0), 47);
        due(() -> terms(45), "and all are there", x -> x.step(7, 0) + x.look(0), 47 + 48);
        Scene terms46 = () -> terms(46);
        refused(terms46, "three more make 49", x -> x.step(7, 0), STATE);
        refused(terms46, "three more make 49, in the second part", x -> x.step(7, 2), STATE);
        due(terms46, "two more make 48", x -> x.step(6, 0), 47);
        due(TERMS_47, "one more makes 48", x -> x.step(5, 0), 47);
        refused(TERMS_47, "two more make 49", x -> x.step(6, 0), STATE);
        refused(TERMS_48, "one more makes 49", x -> x.step(5, 0), STATE);
        refused(TERMS_48, "three more make 51", x -> x.step(7, 3), STATE);
        refused(TERMS_48, "forty and more", x -> x.step(47, 0), STATE);
        due(TERMS_48, "none more", x -> x.step(0, 0), 1);
        due(TERMS_48, "none more, in a part", x -> x.step(2, 0), 3);
        due(TERMS_48, "none more, the last rule", x -> x.step(0, 1), 2);
        refused(TERMS_48, "no such step either", x -> x.step(5, 2), INDEX);
        refused(TERMS_48, "above 999 too", x -> x.step(5, 1000), INDEX);
        asDeepAsItGets();
    }

    private static void asDeepAsItGets() {
        Scene shrinks = () -> {
            GroundReach x = new GroundReach(USUAL);
            tower(x, G, x.term(A, 0, 0), 47);
            x.rule(1, 0);
            return x;
        };
        Scene grows = () -> {
            GroundReach x = shrinks.make();
            x.rule(0, 1);
            return x;
        };
        due(shrinks, "46 deep, to a known one", x -> x.step(47, 0), 46);
        due(grows, "46 deep, to a known one", x -> x.step(47, 0), 46);
        due(grows, "46 deep in the one before", x -> x.step(46, 1), 47);
        refused(grows, "47 deep, to a 49th one", x -> x.step(47, 1), STATE);
        refused(grows, "no deeper", x -> x.step(47, 2), INDEX);
    }

    // ---- Promise 16

    private static void distance() {
        says("16: IllegalArgumentException if there are no such terms");
        onlyBelow(FEW_TERMS, FEW, "distance(s, 0)", (x, s) -> x.distance(s, 0), ARGUMENT);
        onlyBelow(FEW_TERMS, FEW, "distance(0, t)", (x, t) -> x.distance(0, t), ARGUMENT);
        onlyBelow(48, TERMS_48, "distance(s, s)", (x, s) -> x.distance(s, s), ARGUMENT);
        refused(EMPTY, "distance(0, 0)", x -> x.distance(0, 0), ARGUMENT);
        doesNotReach();
        moreThan400InOneLevel();
        moreThan400InManyLevels();
        moreThan400BeforeTheLast();
    }

    private static void doesNotReach() {
        says("16: NONE if s does not reach t");
        GroundReach x = fewTerms();
        x.rule(0, 1);
        due("distance(a, b)", x.distance(0, 1), 1);
        due("distance(b, a)", x.distance(1, 0), NONE);
        due("distance(6, 7)", x.distance(6, 7), NONE);
        x.rule(0, 2);
        due("distance(a, 7), though the levels have no end", x.distance(0, 7), NONE);
        due("distance(6, 7), though the levels have no end", x.distance(6, 7), NONE);
        x.rule(1, 7);
        due("distance(a, 7)", x.distance(0, 7), 2);
        refused(FEW, "distance(a, 7)", y -> y.distance(0, 7), NONE);
        Scene wide = () -> wide(1);
        refused(wide, "to a, though level 1 is too much", y -> y.distance(WIDE_TOP, 0), NONE);
    }

    private static final int WIDE_TOP = 11;

    /**
     * 128 times a below f and g, and a rule from a to b: with level 1 there are a, the 7 f and the 3 g round it, and b
     * with the ways to it in 2 + 2 + 4 + 4 + 8 + 16 + 32 + 64 + 128 + 128 terms round it: 400; h round b is one more.
     */
    private static GroundReach wide(int more) {
        GroundReach x = new GroundReach(USUAL);
        int a = x.term(A, 0, 0);
        int b = x.term(B, 0, 0);
        int top = x.term(G, tower(x, F, a, 1), 0);
        top = x.term(G, tower(x, F, top, 1), 0);
        top = x.term(G, tower(x, F, top, 5), 0);
        x.rule(a, tower(x, H, b, more));
        x.step(top, 0);
        x.step(top, 127);
        return x;
    }

    private static void moreThan400InOneLevel() {
        says("16: -2 if the terms of the levels up to that one (with all of it), and their parts, are more than 400");
        Scene just = () -> wide(0);
        Scene oneMore = () -> wide(1);
        int top = WIDE_TOP;
        due("steps", just.make().of(top, 4), 128);
        due("steps", oneMore.make().of(top, 4), 128);
        int first = just.make().step(top, 0);
        int last = just.make().step(top, 127);
        due(just, "to the first of 400", x -> x.distance(top, first), 1);
        due(just, "to the last of 400", x -> x.distance(top, last), 1);
        int firstNow = oneMore.make().step(top, 0);
        int lastNow = oneMore.make().step(top, 127);
        refused(oneMore, "to the first of 401", x -> x.distance(top, firstNow), TOO_MANY);
        refused(oneMore, "to the last of 401", x -> x.distance(top, lastNow), TOO_MANY);
        due(oneMore, "level 0", x -> x.distance(top, top), 0);
        due(oneMore, "a part of it, with fewer", x -> x.distance(x.of(top, 1), x.of(firstNow, 1)), 1);
        due(oneMore, "not reached", x -> x.distance(firstNow, lastNow), NONE);
    }

    /**
     * With a rule c to g(c), the levels of f(c, c) up to n have the f(g..(c), g..(c)) with at most n symbols g and the
     * parts g..(c): 351 and 26 for 25, and the parts of c beside it. What the rule of b makes is none of them.
     */
    private static GroundReach twoTowers(int partsOfC) {
        GroundReach x = new GroundReach(USUAL);
        int b = x.term(B, 0, 0);
        x.rule(b, x.term(K, b, b));
        int c = tower(x, H, x.term(A, 0, 0), partsOfC);
        int twelve = tower(x, G, c, 12);
        int thirteen = x.term(G, twelve, 0);
        x.rule(c, x.term(G, c, 0));
        x.term(F, c, c);
        x.term(F, twelve, twelve);
        x.term(F, twelve, thirteen);
        x.term(F, thirteen, thirteen);
        return x;
    }

    private static void moreThan400InManyLevels() {
        says("16: the levels up to that one, and their parts: 400 different ones, and one more");
        for (int parts = 20; parts <= 26; parts++) {
            GroundReach x = twoTowers(parts);
            int s = x.look(0) - 4;
            due("parts", x.of(s, 3), 3 + 2 * parts);
            due("24 steps, " + (325 + 25 + parts), x.distance(s, s + 1), 24);
            due("25 steps, " + (351 + 26 + parts), x.distance(s, s + 2), 351 + 26 + parts <= 400 ? 25 : TOO_MANY);
            due("26 steps", x.distance(s, s + 3), TOO_MANY);
            due("later ones do not count", x.distance(s + 2, s + 3), 1);
            due("reached all the same", bit(x.reaches(s, s + 3)), TRUE);
            due("not back", x.distance(s + 3, s), NONE);
            due("terms", x.look(0), s + 4);
        }
    }

    /**
     * Two chains h..(c) become shorter below f and 5 times g: 64 * 6 terms, 8 chains with c, and the parts of c. Where
     * both are c, that becomes a, and the whole a part of c: the last level has nothing that was not counted before.
     */
    private static GroundReach twoChains(int partsOfC, boolean partsInFirst) {
        GroundReach x = new GroundReach(USUAL);
        int a = x.term(A, 0, 0);
        int b = x.term(B, 0, 0);
        int deep = tower(x, G, a, partsOfC - 2);
        int c = partsInFirst ? x.term(K, deep, b) : x.term(K, b, deep);
        int chain = tower(x, H, c, 7);
        x.rule(x.term(H, c, 0), c);
        x.rule(x.term(F, c, c), a);
        tower(x, G, x.term(F, chain, chain), 5);
        return x;
    }

    private static void moreThan400BeforeTheLast() {
        says("16: the terms of the levels up to that one: 400, and then a level with none that is new");
        for (int parts = 7; parts <= 10; parts++) {
            for (boolean inFirst : new boolean[] {true, false}) {
                int total = 64 * 6 + 8 + parts;
                GroundReach x = twoChains(parts, inFirst);
                int s = x.look(0) - 1;
                int partOfC = x.term(G, 5, 0);
                due("made before", partOfC, 6);
                due("15 steps, " + total, x.distance(s, partOfC), total <= 400 ? 15 : TOO_MANY);
                due("again", x.distance(s, partOfC), total <= 400 ? 15 : TOO_MANY);
                due("one g less, with 64 fewer", x.distance(s - 1, partOfC - 1), 15);
                due("not back", x.distance(partOfC, s), NONE);
                due("to another one", x.distance(s, 1), NONE);
            }
        }
    }

    // ---- Promise 17

    private static void look() {
        says("17: NONE for any other which");
        for (int which : new int[] {-1, 10, 11, 32, 36, 64, MIN, MIN + 4, MAX}) {
            refused(FEW, "look(" + which + ")", at(which, (x, w) -> x.look(w)), NONE);
            refused(EMPTY, "look(" + which + ")", at(which, (x, w) -> x.look(w)), NONE);
        }
        int[] wanted = {FEW_TERMS, 3, 5, 18, 0, 0, 1, 1, 2, 2};
        for (int which = 0; which < 10; which++) {
            due(FEW, "look(" + which + ")", at(which, (x, w) -> x.look(w)), wanted[which]);
        }
        due("all terms", TERMS_48.make().look(0), 48);
        due("all rules", RULES_8.make().look(1), 8);
        due("all transitions", EDGES_20.make().look(2), 20);
        says("17: 3: final states, as bits");
        for (int bits = 0; bits < 64; bits++) {
            GroundReach x = EMPTY.make();
            for (int state = 0; state < 6; state++) {
                x.mark(state, (bits >> state & 1) != 0);
            }
            due("final states", x.look(3), bits);
        }
    }

    // ---- all promises

    private static void answersAreNoChanges() {
        says("What throws, or answers false, changes nothing");
        for (int s = 0; s < FEW_TERMS; s++) {
            for (int t = 0; t < FEW_TERMS; t++) {
                int from = s;
                GroundReach x = FEW.make();
                if (!x.reaches(s, t)) {
                    refused(FEW, "reaches(" + s + ", " + t + ")", at(t, (y, u) -> bit(y.reaches(from, u))), FALSE);
                }
                if (!x.meet(s, t)) {
                    refused(FEW, "meet(" + s + ", " + t + ")", at(t, (y, u) -> bit(y.meet(from, u))), FALSE);
                }
            }
        }
        for (int t = 0; t < FEW_TERMS; t++) {
            GroundReach x = FEW.make();
            if (!x.has(t)) {
                refused(FEW, "has(" + t + ")", at(t, (y, u) -> bit(y.has(u))), FALSE);
            }
            if (!x.from(t)) {
                refused(FEW, "from(" + t + ")", at(t, (y, u) -> bit(y.from(u))), FALSE);
            }
            if (!x.into(t)) {
                refused(FEW, "into(" + t + ")", at(t, (y, u) -> bit(y.into(u))), FALSE);
            }
        }
    }
}
