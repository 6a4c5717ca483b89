/** Each promise of the document: ordinary inputs, the edges that it names, and wrong inputs. */
public final class PromiseTest {
    /** Symbols 0 and 1 without places, 2 and 3 with one, 4 and 5 with two. */
    private static final int USUAL = 2640;
    private static final int A = 0;
    private static final int B = 1;
    private static final int G = 2;
    private static final int H = 3;
    private static final int F = 4;
    private static final int K = 5;
    private static final int MIN = Integer.MIN_VALUE;
    private static final int MAX = Integer.MAX_VALUE;

    private static int wrong = 0;

    private interface Call {
        void run();
    }

    public static void main(String[] args) {
        newObject();
        term();
        termsAreAtMost48();
        of();
        ofIsCut();
        rule();
        cut();
        edge();
        mark();
        reaches();
        reachesThroughEndlesslyMany();
        meet();
        has();
        from();
        into();
        least();
        lightest();
        step();
        stepWithoutRoom();
        stepOfHugeTerm();
        distance();
        distanceCountsLevels();
        distanceCountsParts();
        look();
        refusedCallsChangeNothing();
        answersFollowChanges();
        exampleOfReadme();
        System.out.println(wrong == 0 ? "all promises hold" : wrong + " answers are wrong");
        if (wrong != 0) {
            System.exit(1);
        }
    }

    private static void due(String what, long got, long want) {
        if (got != want) {
            wrong++;
            System.out.println(what + " answered " + got + ", due is " + want);
        }
    }

    private static void due(String what, boolean got, boolean want) {
        due(what, got ? 1 : 0, want ? 1 : 0);
    }

    private static void argument(String what, Call call) {
        refused(what, call, IllegalArgumentException.class);
    }

    private static void state(String what, Call call) {
        refused(what, call, IllegalStateException.class);
    }

    private static void index(String what, Call call) {
        refused(what, call, IndexOutOfBoundsException.class);
    }

    private static void refused(String what, Call call, Class<?> want) {
        Class<?> got = null;
        try {
            call.run();
        } catch (RuntimeException e) {
            got = e.getClass();
        }
        if (got != want) {
            wrong++;
            System.out.println(what + " threw " + got + ", due is " + want);
        }
    }

    private static void newObject() {
        GroundReach x = new GroundReach(0b11_10_01_00_11_01);
        int[] places = {1, 2, 0, 1, 2, 2};
        for (int k = 0; k < 6; k++) {
            due("1 places of " + k, x.look(4 + k), places[k]);
        }
        for (int k = 0; k < 6; k++) {
            due("1 places of all bits " + k, new GroundReach(-1).look(4 + k), 2);
            due("1 bits above the twelve " + k, new GroundReach(0xfffff000).look(4 + k), 0);
        }
        due("1 no terms", x.look(0), 0);
        due("1 no rules", x.look(1), 0);
        due("1 no transitions", x.look(2), 0);
        due("1 no final states", x.look(3), 0);
        due("1 none", GroundReach.NONE, -1);
    }

    private static void term() {
        GroundReach x = new GroundReach(USUAL);
        argument("2 part that is not made", () -> x.term(G, 0, 0));
        argument("2 its own number", () -> x.term(F, 0, 0));
        due("2 places that are not there are not asked", x.term(A, MIN, MAX), 0);
        due("2 again", x.term(A, 0, 0), 0);
        due("2 unary", x.term(G, 0, -9), 1);
        due("2 unary again", x.term(G, 0, 99), 1);
        due("2 same part twice", x.term(F, 0, 0), 2);
        due("2 order counts", x.term(F, 0, 1), 3);
        due("2 order counts", x.term(F, 1, 0), 4);
        due("2 symbol counts", x.term(K, 0, 1), 5);
        argument("2 symbol below", () -> x.term(-1, 0, 0));
        argument("2 symbol above", () -> x.term(6, 0, 0));
        argument("2 symbol far", () -> x.term(MAX, 0, 0));
        argument("2 part below", () -> x.term(G, -1, 0));
        argument("2 first above", () -> x.term(F, 6, 0));
        argument("2 second above", () -> x.term(F, 0, 6));
        argument("2 second below", () -> x.term(F, 0, MIN));
        due("2 nothing made", x.look(0), 6);
    }

    private static void termsAreAtMost48() {
        GroundReach x = new GroundReach(USUAL);
        tower(x, G, x.term(A, 0, 0), 47);
        due("2 full", x.look(0), 48);
        due("2 known one when full", x.term(G, 46, 0), 47);
        state("2 one too many", () -> x.term(G, 47, 0));
        state("2 one too many", () -> x.term(B, 0, 0));
        argument("2 wrong part when full", () -> x.term(G, 48, 0));
        due("2 still full", x.look(0), 48);
        due("2 depth counts in size", x.of(47, 3), 48);
    }

    private static int tower(GroundReach x, int symbol, int base, int height) {
        int top = base;
        for (int i = 0; i < height; i++) {
            top = x.term(symbol, top, top);
        }
        return top;
    }

    private static void of() {
        GroundReach x = new GroundReach(USUAL);
        int a = x.term(A, 0, 0);
        int ga = x.term(G, a, 0);
        int pair = x.term(F, ga, a);
        int twice = x.term(K, pair, pair);
        due("3 symbol", x.of(twice, 0), K);
        due("3 first", x.of(pair, 1), ga);
        due("3 second", x.of(pair, 2), a);
        due("3 no second", x.of(ga, 2), -1);
        due("3 no first", x.of(a, 1), -1);
        due("3 size of a constant", x.of(a, 3), 1);
        due("3 a part that stands twice counts twice", x.of(twice, 3), 9);
        due("3 no steps", x.of(twice, 4), 0);
        x.rule(a, ga);
        x.rule(pair, a);
        x.rule(a, pair);
        due("3 steps at every place, for every rule", x.of(twice, 4), 10);
        x.rule(a, ga);
        due("3 the same rule twice counts twice", x.of(a, 4), 3);
        due("3 w below", x.of(a, -1), -1);
        due("3 w above", x.of(a, 5), -1);
        due("3 w far", x.of(a, MAX), -1);
        due("3 term below", x.of(-1, 0), -1);
        due("3 term above", x.of(4, 0), -1);
        due("3 term far", x.of(MIN, 3), -1);
    }

    private static void ofIsCut() {
        GroundReach x = new GroundReach(USUAL);
        int a = x.term(A, 0, 0);
        int b = x.term(B, 0, 0);
        int[] tops = new int[47];
        tops[0] = a;
        for (int i = 1; i < 47; i++) {
            tops[i] = x.term(F, tops[i - 1], tops[i - 1]);
        }
        x.rule(a, b);
        due("3 largest size below", x.of(tops[28], 3), 536870911);
        due("3 size cut", x.of(tops[29], 3), 1000000000);
        due("3 size cut at the top", x.of(tops[46], 3), 1000000000);
        due("3 steps below", x.of(tops[29], 4), 536870912);
        due("3 steps cut", x.of(tops[30], 4), 1000000000);
        due("3 steps cut at the top", x.of(tops[46], 4), 1000000000);
        due("13 least cut", x.least(tops[46]), 1000000000);
        due("13 least below", x.least(tops[28]), 536870911);
        x.rule(tops[45], a);
        due("13 least of what is huge", x.least(tops[46]), 3);
    }

    private static void rule() {
        GroundReach x = new GroundReach(USUAL);
        argument("4 no terms", () -> x.rule(0, 1));
        int a = x.term(A, 0, 0);
        int b = x.term(B, 0, 0);
        argument("4 same", () -> x.rule(a, a));
        argument("4 left below", () -> x.rule(-1, b));
        argument("4 left above", () -> x.rule(2, b));
        argument("4 right below", () -> x.rule(a, MIN));
        argument("4 right above", () -> x.rule(a, 2));
        for (int i = 0; i < 8; i++) {
            due("4 number", x.rule(i % 2 == 0 ? a : b, i % 2 == 0 ? b : a), i);
        }
        state("4 ninth", () -> x.rule(a, b));
        argument("4 ninth of the same", () -> x.rule(a, a));
        due("4 eight", x.look(1), 8);
        due("4 all count", x.of(a, 4), 4);
    }

    private static void cut() {
        GroundReach x = new GroundReach(USUAL);
        due("5 none", x.cut(), false);
        int a = x.term(A, 0, 0);
        int b = x.term(B, 0, 0);
        x.rule(a, b);
        x.rule(b, a);
        due("5 before", x.reaches(b, a), true);
        due("5 last", x.cut(), true);
        due("5 last went", x.reaches(b, a), false);
        due("5 first stayed", x.reaches(a, b), true);
        due("5 number comes again", x.rule(b, a), 1);
        x.cut();
        due("5 first", x.cut(), true);
        due("5 no more", x.cut(), false);
        due("5 count", x.look(1), 0);
        due("5 terms stay", x.look(0), 2);
    }

    private static void edge() {
        GroundReach x = new GroundReach(USUAL);
        due("6 constant", x.edge(A, -7, MAX, 5), true);
        due("6 the same constant", x.edge(A, 3, 3, 5), false);
        due("6 other target", x.edge(A, 3, 3, 4), true);
        due("6 unary", x.edge(G, 1, MIN, 0), true);
        due("6 the same unary", x.edge(G, 1, 2, 0), false);
        due("6 binary", x.edge(F, 1, 2, 0), true);
        due("6 turned round", x.edge(F, 2, 1, 0), true);
        argument("6 symbol below", () -> x.edge(-1, 0, 0, 0));
        argument("6 symbol above", () -> x.edge(6, 0, 0, 0));
        argument("6 first above", () -> x.edge(G, 6, 0, 0));
        argument("6 first below", () -> x.edge(F, -1, 0, 0));
        argument("6 second above", () -> x.edge(F, 0, 6, 0));
        argument("6 second below", () -> x.edge(F, 0, MIN, 0));
        argument("6 target above", () -> x.edge(A, 0, 0, 6));
        argument("6 target below", () -> x.edge(A, 0, 0, -1));
        due("6 count", x.look(2), 5);
        for (int i = 0; i < 15; i++) {
            due("6 more", x.edge(K, i / 6, i % 6, 1), true);
        }
        state("6 one too many", () -> x.edge(H, 0, 0, 0));
        due("6 the same when full", x.edge(F, 2, 1, 0), false);
        argument("6 wrong when full", () -> x.edge(H, 6, 0, 0));
        due("6 full", x.look(2), 20);
    }

    private static void mark() {
        GroundReach x = new GroundReach(USUAL);
        due("7 on", x.mark(0, true), true);
        due("7 on again", x.mark(0, true), false);
        due("7 last state", x.mark(5, true), true);
        due("7 bits", x.look(3), 33);
        due("7 off", x.mark(0, false), true);
        due("7 off again", x.mark(0, false), false);
        due("7 never on", x.mark(3, false), false);
        due("7 state above", x.mark(6, true), false);
        due("7 state below", x.mark(-1, true), false);
        due("7 state far", x.mark(37, true), false);
        due("7 bits", x.look(3), 32);
    }

    private static void reaches() {
        GroundReach x = new GroundReach(USUAL);
        int a = x.term(A, 0, 0);
        int b = x.term(B, 0, 0);
        int ga = x.term(G, a, 0);
        int gb = x.term(G, b, 0);
        int fab = x.term(F, a, b);
        int fba = x.term(F, b, a);
        int fgab = x.term(F, ga, b);
        int hb = x.term(H, b, 0);
        due("8 itself", x.reaches(fab, fab), true);
        due("8 no rules", x.reaches(a, b), false);
        x.rule(a, b);
        due("8 a rule", x.reaches(a, b), true);
        due("8 not back", x.reaches(b, a), false);
        due("8 in a part", x.reaches(ga, gb), true);
        due("8 other symbol", x.reaches(ga, hb), false);
        due("8 not both", x.reaches(fab, fba), false);
        x.rule(gb, a);
        due("8 through the whole", x.reaches(fgab, fab), true);
        due("8 part, whole, part", x.reaches(ga, b), true);
        x.rule(b, ga);
        due("8 both ways", x.reaches(fab, fba), true);
        argument("8 first", () -> x.reaches(8, 0));
        argument("8 second", () -> x.reaches(0, 8));
        argument("8 below", () -> x.reaches(-1, 0));
        argument("8 below", () -> x.reaches(0, MIN));
    }

    private static void reachesThroughEndlesslyMany() {
        GroundReach x = new GroundReach(USUAL);
        int a = x.term(A, 0, 0);
        int b = x.term(B, 0, 0);
        int ga = x.term(G, a, 0);
        int gb = x.term(G, b, 0);
        int top = tower(x, G, a, 20);
        int other = tower(x, G, b, 20);
        x.rule(a, ga);
        due("8 grows", x.reaches(a, top), true);
        due("8 does not shrink", x.reaches(top, a), false);
        due("8 never", x.reaches(a, b), false);
        x.rule(ga, b);
        due("8 from among many", x.reaches(top, other), true);
        due("8 cannot shrink", x.reaches(top, b), false);
        x.rule(gb, b);
        due("8 grows and shrinks", x.reaches(top, b), true);
        due("8 never back", x.reaches(b, gb), false);
        due("16 grows and shrinks", x.distance(a, b), 2);
        due("16 long way down", x.distance(top, b), 20);
    }

    private static void meet() {
        GroundReach x = new GroundReach(USUAL);
        int a = x.term(A, 0, 0);
        int b = x.term(B, 0, 0);
        int ga = x.term(G, a, 0);
        int ha = x.term(H, a, 0);
        int fab = x.term(F, a, b);
        int fba = x.term(F, b, a);
        int kab = x.term(K, a, b);
        due("9 itself", x.meet(fab, fab), true);
        due("9 no rules", x.meet(a, b), false);
        x.rule(a, ga);
        due("9 one reaches the other", x.meet(a, ga), true);
        due("9 never", x.meet(ga, ha), false);
        x.rule(b, ga);
        due("9 constants", x.meet(a, b), true);
        due("9 in a term that was never made", x.meet(fab, fba), true);
        due("9 turned round", x.meet(fba, fab), true);
        due("9 other symbol", x.meet(fab, kab), false);
        due("9 makes no term", x.look(0), 7);
        argument("9 first", () -> x.meet(7, 0));
        argument("9 second", () -> x.meet(0, -1));
        meetIsNotHandedOn();
    }

    private static void meetIsNotHandedOn() {
        GroundReach x = new GroundReach(USUAL);
        int a = x.term(A, 0, 0);
        int b = x.term(B, 0, 0);
        int ga = x.term(G, a, 0);
        int gb = x.term(G, b, 0);
        x.rule(ga, a);
        x.rule(ga, b);
        due("9 left", x.meet(a, ga), true);
        due("9 right", x.meet(ga, b), true);
        due("9 not handed on", x.meet(a, b), false);
        due("9 a part is not the whole", x.meet(gb, b), false);
    }

    private static GroundReach evenTowers() {
        GroundReach x = new GroundReach(USUAL);
        x.edge(A, 0, 0, 0);
        x.edge(G, 0, 0, 1);
        x.edge(G, 1, 0, 0);
        x.mark(0, true);
        tower(x, G, x.term(A, 0, 0), 4);
        return x;
    }

    private static void has() {
        GroundReach x = evenTowers();
        for (int t = 0; t < 5; t++) {
            due("10 even", x.has(t), t % 2 == 0);
        }
        x.mark(1, true);
        due("10 any final state", x.has(1), true);
        x.mark(0, false);
        due("10 not final", x.has(0), false);
        int both = x.term(F, 0, 1);
        due("10 no transition", x.has(both), false);
        x.edge(F, 1, 0, 1);
        due("10 order of places", x.has(both), false);
        x.edge(F, 0, 0, 1);
        due("10 second place", x.has(both), false);
        x.edge(F, 0, 1, 1);
        due("10 two places", x.has(both), true);
        x.edge(A, 0, 0, 1);
        due("10 more than one state", x.has(2), true);
        argument("10 above", () -> x.has(6));
        argument("10 below", () -> x.has(-1));
        due("10 rules do not count", new GroundReach(USUAL).look(3), 0);
    }

    private static void from() {
        GroundReach x = evenTowers();
        int b = x.term(B, 0, 0);
        int gb = x.term(G, b, 0);
        int ggb = x.term(G, gb, 0);
        due("11 itself", x.from(2), true);
        due("11 not in the language", x.from(1), false);
        x.rule(3, b);
        due("11 below a made term that is not in it", x.from(gb), true);
        due("11 odd", x.from(b), false);
        due("11 odd", x.from(ggb), false);
        x.rule(ggb, gb);
        due("11 from a term that was never made", x.from(ggb), true);
        due("11 still odd", x.from(b), false);
        due("10 not in the language itself", x.has(gb), false);
        argument("11 above", () -> x.from(8));
        argument("11 below", () -> x.from(MIN));
    }

    private static void into() {
        GroundReach x = evenTowers();
        int b = x.term(B, 0, 0);
        int gb = x.term(G, b, 0);
        due("12 itself", x.into(2), true);
        due("12 odd", x.into(1), false);
        due("12 unknown", x.into(b), false);
        x.rule(b, 1);
        due("12 odd", x.into(b), false);
        due("12 to an even one", x.into(gb), true);
        x.rule(4, 3);
        due("12 through a rule in a part", x.into(x.term(G, 4, 0)), true);
        due("12 too small for the rule", x.into(3), false);
        x.rule(b, x.term(H, b, 0));
        due("12 endlessly many on the way", x.into(gb), true);
        argument("12 above", () -> x.into(9));
        argument("12 below", () -> x.into(-1));
        due("12 makes no term", x.look(0), 9);
    }

    private static void least() {
        GroundReach x = new GroundReach(USUAL);
        int a = x.term(A, 0, 0);
        int b = x.term(B, 0, 0);
        int ga = x.term(G, a, 0);
        int gga = x.term(G, ga, 0);
        int pair = x.term(F, gga, ga);
        due("13 no rules", x.least(pair), 6);
        x.rule(a, ga);
        due("13 growing", x.least(pair), 6);
        x.rule(gga, b);
        due("13 parts shrink by themselves", x.least(pair), 3);
        due("13 first it grows", x.least(a), 1);
        due("13 a made term that is less", x.least(ga), 1);
        x.rule(x.term(F, b, b), b);
        due("13 least of the whole", x.least(pair), 1);
        argument("13 above", () -> x.least(6));
        argument("13 below", () -> x.least(-1));
    }

    private static void lightest() {
        GroundReach x = new GroundReach(USUAL);
        due("14 none", x.lightest(0), -1);
        x.edge(G, 0, 0, 0);
        due("14 no ground", x.lightest(0), -1);
        for (int q = 5; q > 0; q--) {
            x.edge(F, q - 1, q - 1, q);
        }
        x.edge(A, 0, 0, 0);
        for (int q = 0; q < 6; q++) {
            due("14 doubled", x.lightest(q), (2 << q) - 1);
        }
        x.edge(G, 0, 0, 5);
        due("14 lighter", x.lightest(5), 2);
        x.edge(G, 2, 0, 1);
        due("14 not heavier", x.lightest(1), 3);
        x.edge(H, 0, 0, 1);
        due("14 lighter, though found later", x.lightest(1), 2);
        due("14 and what is built on it", x.lightest(3), 11);
        x.edge(K, 5, 3, 4);
        due("14 lighter of two", x.lightest(4), 14);
        argument("14 above", () -> x.lightest(6));
        argument("14 below", () -> x.lightest(-1));
        due("14 terms need not be made", x.look(0), 0);
        GroundReach y = new GroundReach(USUAL);
        y.edge(A, 0, 0, 0);
        y.edge(F, 0, 0, 1);
        y.edge(F, 1, 1, 2);
        y.edge(H, 0, 0, 1);
        due("14 heavier ones first", y.lightest(1), 2);
        due("14 heavier parts first", y.lightest(2), 5);
    }

    private static void step() {
        GroundReach x = new GroundReach(USUAL);
        int a = x.term(A, 0, 0);
        int b = x.term(B, 0, 0);
        int ga = x.term(G, a, 0);
        int pair = x.term(F, ga, a);
        index("15 no rules", () -> x.step(pair, 0));
        x.rule(a, b);
        x.rule(pair, a);
        x.rule(ga, a);
        x.rule(a, ga);
        due("15 steps", x.of(pair, 4), 6);
        due("15 the whole first", x.step(pair, 0), a);
        due("15 then the first part", x.step(pair, 1), 4);
        due("15 f(a, a)", x.of(4, 1), a);
        due("15 what is in the first part, by rules", x.step(pair, 2), 6);
        due("15 parts first", x.of(5, 0), G);
        due("15 g(b)", x.of(5, 1), b);
        due("15 f(g(b), a)", x.of(6, 1), 5);
        due("15 next rule", x.step(pair, 3), 8);
        due("15 g(g(a))", x.of(7, 1), ga);
        due("15 second part", x.step(pair, 4), 9);
        due("15 f(g(a), b)", x.of(9, 2), b);
        due("15 second part, next rule", x.step(pair, 5), 10);
        due("15 f(g(a), g(a))", x.of(10, 2), ga);
        due("15 known terms are not made again", x.step(pair, 3), 8);
        due("15 count", x.look(0), 11);
        index("15 step above", () -> x.step(pair, 6));
        index("15 step below", () -> x.step(pair, -1));
        index("15 step far", () -> x.step(pair, MAX));
        index("15 step far below", () -> x.step(pair, MIN));
        index("15 term above", () -> x.step(11, 0));
        index("15 term below", () -> x.step(-1, 0));
    }

    private static void stepWithoutRoom() {
        GroundReach x = new GroundReach(USUAL);
        int a = x.term(A, 0, 0);
        int b = x.term(B, 0, 0);
        int gga = tower(x, G, a, 2);
        tower(x, H, a, 43);
        due("15 nearly full", x.look(0), 47);
        x.rule(a, b);
        state("15 two more needed", () -> x.step(gga, 0));
        due("15 the first of the two was not kept", x.look(0), 47);
        due("15 nor found", x.term(H, b, 0), 47);
        due("15 none needed", x.step(a, 0), b);
        state("15 full", () -> x.step(gga, 0));
        index("15 no step, and full", () -> x.step(gga, 1));
        due("15 known term when full", x.step(x.term(H, a, 0), 0), 47);
    }

    private static void stepOfHugeTerm() {
        GroundReach x = new GroundReach(USUAL);
        int a = x.term(A, 0, 0);
        int b = x.term(B, 0, 0);
        int top = tower(x, F, a, 20);
        x.rule(a, b);
        due("15 steps of a huge term", x.of(top, 4), 1 << 20);
        due("15 highest step", x.step(top, 999), 41);
        index("15 above 999", () -> x.step(top, 1000));
        int part = 41;
        for (int level = 19; level >= 0; level--) {
            boolean second = (999 >> level & 1) != 0;
            due("15 other side of level " + level, x.of(part, second ? 1 : 2), level == 0 ? a : level + 1);
            part = x.of(part, second ? 2 : 1);
        }
        due("15 replaced", part, b);
        due("15 room for one way", x.look(0), 42);
        state("15 no room for another one", () -> x.step(top, 0));
        due("15 nothing made", x.look(0), 42);
    }

    private static void distance() {
        GroundReach x = new GroundReach(USUAL);
        int a = x.term(A, 0, 0);
        int b = x.term(B, 0, 0);
        int ga = x.term(G, a, 0);
        int gb = x.term(G, b, 0);
        int faa = x.term(F, a, a);
        int fbb = x.term(F, b, b);
        due("16 itself", x.distance(a, a), 0);
        due("16 none", x.distance(a, b), -1);
        x.rule(a, ga);
        x.rule(ga, gb);
        x.rule(gb, b);
        due("16 three steps", x.distance(a, b), 3);
        due("16 two parts", x.distance(faa, fbb), 6);
        x.rule(faa, fbb);
        due("16 a shorter way", x.distance(faa, fbb), 1);
        due("16 not back", x.distance(fbb, faa), -1);
        due("16 makes no term", x.look(0), 6);
        due("16 nor finds one later", x.term(F, ga, a), 6);
        argument("16 first", () -> x.distance(7, 0));
        argument("16 second", () -> x.distance(0, 7));
        argument("16 below", () -> x.distance(-1, 0));
    }

    /**
     * With a rule c to g(c), level n of f(c, c) has the f(g..(c), g..(c)) with n symbols g: up to level 25 there are
     * 351 of them and 26 parts; the parts of c itself bring that to any number that is wanted.
     */
    private static GroundReach twoTowers(int height) {
        GroundReach x = new GroundReach(USUAL);
        int c = tower(x, H, x.term(A, 0, 0), height);
        int gc = x.term(G, c, 0);
        x.rule(c, gc);
        int twelve = tower(x, G, c, 12);
        int thirteen = x.term(G, twelve, 0);
        x.term(F, c, c);
        x.term(F, twelve, twelve);
        x.term(F, twelve, thirteen);
        x.term(F, thirteen, thirteen);
        return x;
    }

    private static void distanceCountsLevels() {
        int height = 23;
        GroundReach x = twoTowers(height);
        int start = x.look(0) - 4;
        due("16 fewer than 400", x.distance(start, start + 1), 24);
        due("16 just 400", x.distance(start, start + 2), 25);
        due("16 more than 400", x.distance(start, start + 3), -2);
        due("16 not reached, though endless", x.distance(start, 0), -1);
        due("16 again", x.distance(start, start + 2), 25);
        GroundReach y = twoTowers(height + 1);
        int other = y.look(0) - 4;
        due("16 just 401", y.distance(other, other + 2), -2);
        due("16 fewer", y.distance(other, other + 1), 24);
        due("8 reached all the same", y.reaches(other, other + 3), true);
        due("16 itself", y.distance(other + 3, other + 3), 0);
        due("16 makes no term", y.look(0), other + 4);
    }

    /** A term with far more steps than 400: its first level is too much, but level 0 is not. */
    private static void distanceCountsParts() {
        GroundReach x = new GroundReach(USUAL);
        int a = x.term(A, 0, 0);
        int b = x.term(B, 0, 0);
        int top = tower(x, F, a, 40);
        x.rule(a, b);
        int small = tower(x, F, a, 4);
        x.rule(top, b);
        due("16 many steps", x.distance(top, b), -2);
        due("16 level 0", x.distance(top, top), 0);
        due("16 not reached", x.distance(top, small), -1);
        due("16 one step of a whole with few", x.distance(small, x.step(small, 15)), 1);
        due("3 steps", x.of(small, 4), 16);
    }

    private static void look() {
        GroundReach x = new GroundReach(USUAL);
        int a = x.term(A, 0, 0);
        x.rule(a, x.term(B, 0, 0));
        x.edge(A, 0, 0, 0);
        x.edge(A, 0, 0, 1);
        x.edge(A, 0, 0, 2);
        x.mark(2, true);
        due("17 terms", x.look(0), 2);
        due("17 rules", x.look(1), 1);
        due("17 transitions", x.look(2), 3);
        due("17 final states", x.look(3), 4);
        due("17 places", x.look(4), 0);
        due("17 places", x.look(7), 1);
        due("17 places", x.look(9), 2);
        due("17 above", x.look(10), -1);
        due("17 below", x.look(-1), -1);
        due("17 far", x.look(MAX), -1);
        due("17 far below", x.look(MIN), -1);
    }

    private static void refusedCallsChangeNothing() {
        GroundReach x = evenTowers();
        int b = x.term(B, 0, 0);
        x.rule(1, b);
        boolean[] before = {x.reaches(2, b), x.meet(3, b), x.from(b), x.into(3), x.has(2)};
        argument("0 term", () -> x.term(F, 0, 6));
        argument("0 rule", () -> x.rule(b, b));
        argument("0 edge", () -> x.edge(F, 0, 9, 0));
        index("0 step", () -> x.step(b, 0));
        due("0 edge", x.edge(A, 1, 1, 0), false);
        due("0 mark", x.mark(0, true), false);
        boolean[] after = {x.reaches(2, b), x.meet(3, b), x.from(b), x.into(3), x.has(2)};
        for (int i = 0; i < before.length; i++) {
            due("0 answer " + i, after[i], before[i]);
        }
        due("0 terms", x.look(0), 6);
        due("0 rules", x.look(1), 1);
        due("0 transitions", x.look(2), 3);
        due("0 final states", x.look(3), 1);
    }

    private static void answersFollowChanges() {
        GroundReach x = new GroundReach(USUAL);
        int a = x.term(A, 0, 0);
        int b = x.term(B, 0, 0);
        int c = x.term(G, a, 0);
        x.rule(a, b);
        due("0 first rule", x.reaches(a, b), true);
        x.cut();
        x.rule(a, c);
        due("0 another rule in its stead", x.reaches(a, b), false);
        due("0 another rule in its stead", x.meet(a, b), false);
        x.cut();
        x.rule(b, a);
        due("0 turned", x.meet(b, a), true);
        int gb = x.term(G, b, 0);
        due("0 a new term", x.reaches(gb, c), true);
        due("0 a new term", x.meet(c, gb), true);
        due("0 a new term", x.distance(gb, c), 1);
    }

    private static void exampleOfReadme() {
        GroundReach x = new GroundReach(2640);
        int a = x.term(0, 0, 0);
        int ga = x.term(2, a, 0);
        int faa = x.term(4, a, a);
        int fgaga = x.term(4, ga, ga);
        x.rule(a, ga);
        due("README: reaches", x.reaches(faa, fgaga), true);
        due("README: distance", x.distance(faa, fgaga), 2);
        x.edge(0, 0, 0, 0);
        x.edge(4, 0, 0, 1);
        x.mark(1, true);
        due("README: has", x.has(fgaga), false);
        due("README: from", x.from(fgaga), true);
    }
}
