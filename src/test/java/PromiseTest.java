/** Each promise of the document: ordinary inputs, some edges, and wrong inputs. A remark at each test names its promise. */
public final class PromiseTest extends Bench {
    public static void main(String[] args) {
        newObject();
        level();
        levelBounds();
        atMost();
        value();
        leaves();
        term();
        let();
        termBounds();
        typeOfLeaves();
        typeOfBinders();
        typeOfApply();
        typeOfLet();
        typeReasonsInOrder();
        typeTooMuch();
        normal();
        normalOrder();
        eta();
        stepBound();
        sizeBound();
        levelBoundInSteps();
        same();
        declare();
        declareReasons();
        declareBounds();
        parts();
        numbersOfAnswers();
        fullLevels();
        fullTerms();
        clear();
        deepTerms();
        finish();
    }

    // Promises 1 and 18.
    private static void newObject() {
        Counted x = new Counted();
        due("levels at first", x.told(0), 1);
        due("terms at first", x.told(1), 0);
        due("names at first", x.told(2), 0);
        due("told(3)", x.told(3), NONE);
        due("told(-1)", x.told(-1), NONE);
        due("told(largest)", x.told(Integer.MAX_VALUE), NONE);
        due("kind of level 0", x.levelPart(0, 0), ZERO);
        due("part 1 of ZERO", x.levelPart(0, 1), NONE);
        due("part 2 of ZERO", x.levelPart(0, 2), NONE);
        due("size of ZERO", x.levelPart(0, 3), 1);
        refused("part(0, 0)", x, INDEX, () -> x.part(0, 0));
        refused("declared(0, 0)", x, INDEX, () -> x.declared(0, 0));
        refused("levelPart(1, 0)", x, INDEX, () -> x.levelPart(1, 0));
        Counted other = new Counted();
        x.sort(x.level(UP, 0, 0));
        due("levels of another object", other.told(0), 1);
        due("terms of another object", other.told(1), 0);
    }

    // Promises 2 and 16.
    private static void level() {
        Counted x = new Counted();
        due("UP 0", x.level(UP, 0, 77), 1);
        due("PARAMETER 0", x.level(PARAMETER, 0, -5), 2);
        due("PARAMETER 2", x.level(PARAMETER, 2, 0), 3);
        due("PARAMETER 1", x.level(PARAMETER, 1, 0), 4);
        due("MAX 2 3", x.level(MAX, 2, 3), 5);
        due("MAX 3 2", x.level(MAX, 3, 2), 6);
        due("IMAX 2 3", x.level(IMAX, 2, 3), 7);
        due("UP 0 again", x.level(UP, 0, 0), 1);
        due("MAX 2 3 again", x.level(MAX, 2, 3), 5);
        due("IMAX 2 3 again", x.level(IMAX, 2, 3), 7);
        due("PARAMETER 2 again", x.level(PARAMETER, 2, 9), 3);
        due("MAX 0 0, which is worth 0 but is not ZERO", x.level(MAX, 0, 0), 8);
        int[][] parts = {{ZERO, NONE, NONE, 1}, {UP, 0, NONE, 2}, {PARAMETER, 0, NONE, 1}, {PARAMETER, 2, NONE, 1},
            {PARAMETER, 1, NONE, 1}, {MAX, 2, 3, 3}, {MAX, 3, 2, 3}, {IMAX, 2, 3, 3}, {MAX, 0, 0, 3}};
        for (int l = 0; l < parts.length; l++) {
            for (int k = 0; k < 4; k++) due("levelPart(" + l + ", " + k + ")", x.levelPart(l, k), parts[l][k]);
        }
        for (int kind : new int[] {ZERO, -1, 5, Integer.MIN_VALUE}) {
            refused("level of kind " + kind, x, ARGUMENT, () -> x.level(kind, 0, 0));
            refused("level of kind " + kind + " of no level", x, ARGUMENT, () -> x.level(kind, 99, 99));
        }
        for (int a : new int[] {-1, 3, Integer.MAX_VALUE}) {
            refused("PARAMETER " + a, x, ARGUMENT, () -> x.level(PARAMETER, a, 0));
        }
        for (int a : new int[] {-1, 9, Integer.MAX_VALUE, Integer.MIN_VALUE}) {
            refused("UP of level " + a, x, INDEX, () -> x.level(UP, a, 0));
            for (int kind : new int[] {MAX, IMAX}) {
                refused("kind " + kind + " of " + a + ", 0", x, INDEX, () -> x.level(kind, a, 0));
                refused("kind " + kind + " of 0, " + a, x, INDEX, () -> x.level(kind, 0, a));
            }
            refused("levelPart(" + a + ", 0)", x, INDEX, () -> x.levelPart(a, 0));
            refused("levelPart(" + a + ", 9)", x, INDEX, () -> x.levelPart(a, 9));
        }
        refused("levelPart(0, 4)", x, ARGUMENT, () -> x.levelPart(0, 4));
        refused("levelPart(0, -1)", x, ARGUMENT, () -> x.levelPart(0, -1));
    }

    // Promise 2: sizes of levels.
    private static void levelBounds() {
        Counted x = new Counted();
        int l = 0;
        for (int size = 2; size <= 8; size++) l = x.level(UP, l, 0);
        int eight = l;
        due("size", x.levelPart(eight, 3), 8);
        refused("a level of size 9", x, TOO_MANY, () -> x.level(UP, eight, 0));
        int seven = x.levelPart(eight, 1);
        refused("MAX of sizes 7 and 1", x, TOO_MANY, () -> x.level(MAX, seven, 0));
        refused("IMAX of sizes 8 and 8", x, TOO_MANY, () -> x.level(IMAX, eight, eight));
        refused("MAX of size 8 and no level", x, INDEX, () -> x.level(MAX, eight, 99));
        int six = x.levelPart(seven, 1);
        due("MAX of sizes 6 and 1", x.levelPart(x.level(MAX, six, 0), 3), 8);
        int nine = x.part(x.type(x.sort(eight)), 1);
        due("an answer's level", x.levelPart(nine, 3), 9);
        refused("a level of size 9 that is there", x, TOO_MANY, () -> x.level(UP, eight, 0));
        due("SORT of that", x.part(x.sort(nine), 1), nine);
    }

    // Promise 3.
    private static void atMost() {
        Counted x = new Counted();
        int one = x.level(UP, 0, 0), two = x.level(UP, one, 0);
        int p = x.level(PARAMETER, 0, 0), q = x.level(PARAMETER, 1, 0), r = x.level(PARAMETER, 2, 0);
        int upP = x.level(UP, p, 0), maxPQ = x.level(MAX, p, q), maxQP = x.level(MAX, q, p), imaxPQ = x.level(IMAX, p, q);
        int[] all = {0, one, two, p, q, r, upP, maxPQ, maxQP, imaxPQ};
        for (int l : all) {
            due("level " + l + " at most itself", x.atMost(l, l), true);
            due("ZERO at most " + l, x.atMost(0, l), true);
            due(l + " at most MAX of it", x.atMost(l, x.level(MAX, l, r)), true);
        }
        due("1 at most 2", x.atMost(one, two), true);
        due("2 at most 1", x.atMost(two, one), false);
        due("p at most q", x.atMost(p, q), false);
        due("p at most 2", x.atMost(p, two), false);
        due("1 at most p", x.atMost(one, p), false);
        due("1 at most UP p", x.atMost(one, upP), true);
        due("2 at most UP p", x.atMost(two, upP), false);
        due("p at most UP p", x.atMost(p, upP), true);
        due("UP p at most p", x.atMost(upP, p), false);
        due("MAX p q at most MAX q p", x.atMost(maxPQ, maxQP), true);
        due("MAX q p at most MAX p q", x.atMost(maxQP, maxPQ), true);
        due("IMAX p q at most MAX p q", x.atMost(imaxPQ, maxPQ), true);
        due("MAX p q at most IMAX p q (q may be 0)", x.atMost(maxPQ, imaxPQ), false);
        due("q at most IMAX p q", x.atMost(q, imaxPQ), true);
        due("p at most IMAX p q", x.atMost(p, imaxPQ), false);
        due("IMAX p p at most p", x.atMost(x.level(IMAX, p, p), p), true);
        due("IMAX p 0 at most 0", x.atMost(x.level(IMAX, p, 0), 0), true);
        due("MAX p 1 at most IMAX p 1", x.atMost(x.level(MAX, p, one), x.level(IMAX, p, one)), true);
        due("IMAX 1 p at most p", x.atMost(x.level(IMAX, one, p), p), true);
        due("IMAX 2 p at most p", x.atMost(x.level(IMAX, two, p), p), false);
        due("IMAX 1 (IMAX 2 q) at most IMAX 2 q", x.atMost(x.level(IMAX, one, x.level(IMAX, two, q)), x.level(IMAX, two, q)), true);
        due("r at most MAX p q", x.atMost(r, maxPQ), false);
        due("UP r at most MAX r 2", x.atMost(x.level(UP, r, 0), x.level(MAX, r, two)), false);
        int far = p;
        for (int k = 0; k < 7; k++) far = x.level(UP, far, 0);
        due("p + 7 at most MAX q (p + 6)", x.atMost(far, x.level(MAX, q, x.levelPart(x.levelPart(far, 1), 1))), false);
        due("MAX q (p + 5) at most MAX q (p + 5)", x.atMost(x.levelPart(far, 1), far), true);
        for (int a : new int[] {-1, x.told(0), Integer.MAX_VALUE}) {
            refused("atMost(" + a + ", 0)", x, INDEX, () -> x.atMost(a, 0));
            refused("atMost(0, " + a + ")", x, INDEX, () -> x.atMost(0, a));
        }
    }

    // Promise 4.
    private static void value() {
        Counted x = new Counted();
        int p = x.level(PARAMETER, 0, 0), q = x.level(PARAMETER, 1, 0), r = x.level(PARAMETER, 2, 0);
        int upR = x.level(UP, r, 0), max = x.level(MAX, p, upR), imax = x.level(IMAX, p, q);
        due("ZERO", x.value(0, 5, 6, 7), 0);
        due("p", x.value(p, 5, 6, 7), 5);
        due("q", x.value(q, 5, 6, 7), 6);
        due("r", x.value(r, 5, 6, 7), 7);
        due("UP r", x.value(upR, 0, 0, 1000), 1001);
        due("MAX p (UP r), the second", x.value(max, 5, 0, 5), 6);
        due("MAX p (UP r), the first", x.value(max, 9, 0, 5), 9);
        due("IMAX p q, q 0", x.value(imax, 1000, 0, 1), 0);
        due("IMAX p q, q less", x.value(imax, 1000, 1, 1), 1000);
        due("IMAX p q, q more", x.value(imax, 0, 3, 1), 3);
        due("IMAX p (IMAX q r), r 0", x.value(x.level(IMAX, p, x.level(IMAX, q, r)), 4, 5, 0), 0);
        due("IMAX (IMAX q r) p, r 0", x.value(x.level(IMAX, x.level(IMAX, q, r), p), 4, 5, 0), 4);
        for (int bad : new int[] {-1, 1001, Integer.MIN_VALUE, Integer.MAX_VALUE}) {
            refused("value, p " + bad, x, ARGUMENT, () -> x.value(0, bad, 0, 0));
            refused("value, q " + bad, x, ARGUMENT, () -> x.value(0, 0, bad, 0));
            refused("value, r " + bad, x, ARGUMENT, () -> x.value(0, 0, 0, bad));
            refused("value of no level, p " + bad, x, INDEX, () -> x.value(99, bad, 0, 0));
        }
        refused("value of level -1", x, INDEX, () -> x.value(-1, 0, 0, 0));
        refused("value of a level that is not there", x, INDEX, () -> x.value(x.told(0), 0, 0, 0));
    }

    // Promises 5, 6, 7 and 15.
    private static void leaves() {
        Counted x = new Counted();
        due("SORT 0", x.sort(0), 0);
        due("VARIABLE 59", x.variable(59), 1);
        due("VARIABLE 0", x.variable(0), 2);
        due("SORT 0 again", x.sort(0), 0);
        due("VARIABLE 0 again", x.variable(0), 2);
        int one = x.level(UP, 0, 0);
        due("SORT 1", x.sort(one), 3);
        for (int l : new int[] {-1, 2, Integer.MAX_VALUE}) refused("sort(" + l + ")", x, INDEX, () -> x.sort(l));
        for (int i : new int[] {-1, 60, Integer.MAX_VALUE}) refused("variable(" + i + ")", x, ARGUMENT, () -> x.variable(i));
        refused("NAME 0, which is not there", x, INDEX, () -> x.name(0, 0, 0));
        x.declare(0, 0, NONE);
        due("NAME 0 0 1", x.name(0, 0, one), 4);
        due("NAME 0 1 0", x.name(0, one, 0), 5);
        due("NAME 0 0 1 again", x.name(0, 0, one), 4);
        refused("NAME -1", x, INDEX, () -> x.name(-1, 0, 0));
        refused("NAME 1", x, INDEX, () -> x.name(1, 0, 0));
        refused("NAME with no first level", x, INDEX, () -> x.name(0, 2, 0));
        refused("NAME with no second level", x, INDEX, () -> x.name(0, 0, -1));
        int[][] parts = {{SORT, 0, NONE, NONE, 1, 0}, {VARIABLE, 59, NONE, NONE, 1, 60}, {VARIABLE, 0, NONE, NONE, 1, 1},
            {SORT, one, NONE, NONE, 1, 0}, {NAME, 0, 0, one, 1, 0}, {NAME, 0, one, 0, 1, 0}};
        checkParts(x, parts);
    }

    private static void checkParts(Counted x, int[][] parts) {
        for (int t = 0; t < parts.length; t++) {
            for (int k = 0; k < 6; k++) due("part(" + t + ", " + k + ")", x.part(t, k), parts[t][k]);
        }
    }

    // Promises 8 and 15.
    private static void term() {
        Counted x = new Counted();
        int s = x.sort(0), v0 = x.variable(0), v3 = x.variable(3);
        due("PI", x.term(PI, v0, v3), 3);
        due("LAMBDA", x.term(LAMBDA, s, v0), 4);
        due("APPLY", x.term(APPLY, v0, v3), 5);
        due("PI again", x.term(PI, v0, v3), 3);
        due("APPLY turned", x.term(APPLY, v3, v0), 6);
        due("LAMBDA of a LAMBDA", x.term(LAMBDA, v0, 4), 7);
        due("PI of VARIABLEs 0", x.term(PI, v0, v0), 8);
        checkParts(x, new int[][] {{SORT, 0, NONE, NONE, 1, 0}, {VARIABLE, 0, NONE, NONE, 1, 1}, {VARIABLE, 3, NONE, NONE, 1, 4},
            {PI, v0, v3, NONE, 3, 3}, {LAMBDA, s, v0, NONE, 3, 0}, {APPLY, v0, v3, NONE, 3, 4}, {APPLY, v3, v0, NONE, 3, 4},
            {LAMBDA, v0, 4, NONE, 5, 1}, {PI, v0, v0, NONE, 3, 1}});
        for (int kind : new int[] {SORT, VARIABLE, NAME, LET, -1, 7, Integer.MAX_VALUE}) {
            refused("term of kind " + kind, x, ARGUMENT, () -> x.term(kind, s, s));
            refused("term of kind " + kind + " of no terms", x, ARGUMENT, () -> x.term(kind, 99, -1));
        }
        for (int kind = PI; kind <= APPLY; kind++) {
            int k = kind;
            refused("term of kind " + kind + " of -1", x, INDEX, () -> x.term(k, -1, s));
            refused("term of kind " + kind + " of none", x, INDEX, () -> x.term(k, s, 9));
        }
    }

    // Promises 9 and 15.
    private static void let() {
        Counted x = new Counted();
        int s = x.sort(0), v0 = x.variable(0), v3 = x.variable(3), v5 = x.variable(5);
        due("LET", x.let(s, v0, v3), 4);
        due("LET, the binder farthest", x.let(v5, v3, v0), 5);
        due("LET again", x.let(s, v0, v3), 4);
        due("LET with its value farthest", x.let(s, v5, v5), 6);
        due("LET of closed ones", x.let(s, s, v0), 7);
        checkParts(x, new int[][] {{SORT, 0, NONE, NONE, 1, 0}, {VARIABLE, 0, NONE, NONE, 1, 1}, {VARIABLE, 3, NONE, NONE, 1, 4},
            {VARIABLE, 5, NONE, NONE, 1, 6}, {LET, s, v0, v3, 4, 3}, {LET, v5, v3, v0, 4, 6}, {LET, s, v5, v5, 4, 6},
            {LET, s, s, v0, 4, 0}});
        refused("LET of no type", x, INDEX, () -> x.let(-1, s, s));
        refused("LET of no value", x, INDEX, () -> x.let(s, 8, s));
        refused("LET of no body", x, INDEX, () -> x.let(s, s, Integer.MAX_VALUE));
        for (int what : new int[] {-1, 6, Integer.MAX_VALUE}) {
            refused("part(0, " + what + ")", x, ARGUMENT, () -> x.part(0, what));
            refused("part(99, " + what + ")", x, INDEX, () -> x.part(99, what));
        }
        refused("part(-1, 0)", x, INDEX, () -> x.part(-1, 0));
    }

    // Promises 8 and 9: sizes of terms.
    private static void termBounds() {
        Counted x = new Counted();
        int s = x.sort(0), t = s;
        for (int size = 3; size <= 59; size += 2) t = x.term(PI, s, t);
        int large = t;
        due("its size", x.part(large, 4), 59);
        refused("a term of size 61", x, TOO_MANY, () -> x.term(PI, s, large));
        refused("a term of size 119", x, TOO_MANY, () -> x.term(APPLY, large, large));
        refused("LET of size 62", x, TOO_MANY, () -> x.let(s, s, large));
        refused("an APPLY of a large one and none", x, INDEX, () -> x.term(APPLY, large, -1));
        int middle = x.part(x.part(large, 2), 2);
        due("size", x.part(middle, 4), 55);
        due("LET of size 58", x.part(x.let(s, s, middle), 4), 58);
        due("LET of size 60", x.part(x.let(s, x.part(large, 2), s), 4), 60);
        int doubled = x.normal(x.let(s, x.part(x.part(middle, 2), 2), x.term(APPLY, x.variable(0), x.variable(0))));
        due("an answer's size", x.part(doubled, 4), 103);
        int half = x.part(doubled, 1);
        refused("a large term that is there", x, TOO_MANY, () -> x.term(APPLY, half, half));
    }

    // Promise 10: SORT, VARIABLE and NAME.
    private static void typeOfLeaves() {
        World w = new World();
        Counted x = w.x;
        due("type of SORT 0", x.type(w.prop), w.set);
        int level = x.part(x.type(w.sortP), 1);
        due("type of SORT p is SORT (UP p)", x.levelPart(level, 0), UP);
        due("its part", x.levelPart(level, 1), w.p0);
        due("type of a variable", x.type(w.v0), -2);
        due("type of a name", x.type(w.z), w.n);
        int two = x.level(UP, w.one, 0);
        int poly = x.declare(2, x.sort(x.level(MAX, w.p0, w.p1)), NONE);
        int type = x.type(x.name(poly, two, w.one));
        due("type of a name with its levels", x.levelPart(x.part(type, 1), 0), MAX);
        due("its first", x.levelPart(x.part(type, 1), 1), two);
        due("its second", x.levelPart(x.part(type, 1), 2), w.one);
        int swapped = x.type(x.name(poly, w.p1, w.p0));
        due("both levels at once", x.part(swapped, 1), x.level(MAX, w.p1, w.p0));
        refused("type(-1)", x, INDEX, () -> x.type(-1));
        refused("type of none", x, INDEX, () -> x.type(x.told(1)));
    }

    // Promise 10: PI and LAMBDA.
    private static void typeOfBinders() {
        World w = new World();
        Counted x = w.x;
        due("type of N to N", x.type(w.nn), x.sort(x.level(IMAX, w.one, w.one)));
        int upP = x.level(UP, w.p0, 0);
        int idType = w.pi(w.sortP, w.pi(w.v0, w.v1)), id = w.fn(w.sortP, w.fn(w.v0, w.v0));
        due("type of the identity's type", x.type(idType), x.sort(x.level(IMAX, upP, x.level(IMAX, w.p0, w.p0))));
        due("type of the identity", x.type(id), idType);
        due("PI of no sort", x.type(w.pi(w.z, w.n)), -5);
        due("PI to no sort", x.type(w.pi(w.n, w.z)), -5);
        due("PI to its variable, which is no sort", x.type(w.pi(w.n, w.v0)), -5);
        due("LAMBDA of no sort", x.type(w.fn(w.z, w.n)), -5);
        due("LAMBDA with a variable too far", x.type(w.fn(w.n, w.v1)), -2);
        due("a type without steps taken", x.type(w.fn(x.let(w.set, w.n, w.v0), w.v0)),
            w.pi(x.let(w.set, w.n, w.v0), x.let(w.set, w.n, w.v0)));
        int outer = w.fn(w.set, w.fn(w.v0, w.fn(w.v1, w.v1)));
        due("types as they are from here", x.type(outer), w.pi(w.set, w.pi(w.v0, w.pi(w.v1, w.v2))));
        int far = w.fn(w.set, w.fn(w.pi(w.v0, w.v1), w.fn(w.n, w.v1)));
        int farType = w.pi(w.set, w.pi(w.pi(w.v0, w.v1), w.pi(w.n, w.pi(w.v2, x.variable(3)))));
        due("a binder's type with a binder in it", x.type(far), farType);
        due("a sort by steps", x.type(w.fn(w.app(w.fn(w.set, w.v0), w.n), w.z)), w.pi(w.app(w.fn(w.set, w.v0), w.n), w.n));
    }

    // Promise 10: APPLY.
    private static void typeOfApply() {
        World w = new World();
        Counted x = w.x;
        due("type of s z", x.type(w.app(w.s, w.z)), w.n);
        due("z z", x.type(w.app(w.z, w.z)), -3);
        due("s s", x.type(w.app(w.s, w.s)), -4);
        int pred = w.axiom(0, w.pi(w.n, w.prop));
        int all = w.axiom(0, w.pi(w.n, w.app(pred, w.v0)));
        due("B WITH a, without steps taken", x.type(w.app(all, w.app(w.fn(w.n, w.v0), w.z))),
            w.app(pred, w.app(w.fn(w.n, w.v0), w.z)));
        due("below binders", x.type(w.fn(w.n, w.fn(w.n, w.app(all, w.v1)))), w.pi(w.n, w.pi(w.n, w.app(pred, w.v1))));
        int two = w.axiom(0, w.pi(w.n, w.pi(w.n, w.prop)));
        int step = w.axiom(0, w.pi(w.n, w.pi(w.n, x.let(w.n, w.z, w.app(two, w.v2, w.v0)))));
        due("B WITH a, where a step made B", x.type(w.app(step, w.app(w.s, w.z))),
            w.pi(w.n, w.app(two, w.app(w.s, w.z), w.z)));
        int fn = w.define(0, x.type(w.nn), w.nn);
        int f = w.axiom(0, fn);
        due("a function whose type is one by steps", x.type(w.app(f, w.z)), w.n);
        int arg = w.axiom(0, x.let(w.set, w.n, w.v0));
        due("an argument whose type is one by steps", x.type(w.app(w.s, arg)), w.n);
        int eta = w.axiom(0, w.pi(w.pi(w.n, w.prop), w.prop));
        int use = w.axiom(0, w.app(eta, pred));
        int useEta = w.axiom(0, w.pi(w.app(eta, w.fn(w.n, w.app(pred, w.v0))), w.n));
        due("SAME but for a LAMBDA that shrinks", x.type(w.app(useEta, use)), w.n);
        int p1p0 = x.sort(x.level(MAX, w.p1, w.p0)), p0p1 = x.sort(x.level(MAX, w.p0, w.p1));
        int f2 = w.fn(x.sort(x.level(UP, x.part(p0p1, 1), 0)), w.z);
        due("SAME but for levels", x.type(w.app(f2, p1p0)), w.n);
        due("levels that are not the SAME", x.type(w.app(f2, w.prop)), -4);
    }

    // Promise 10: LET.
    private static void typeOfLet() {
        World w = new World();
        Counted x = w.x;
        due("LET", x.type(x.let(w.n, w.z, w.app(w.s, w.v0))), w.n);
        due("LET with another's value", x.type(x.let(w.n, w.s, w.v0)), -7);
        due("LET of no sort", x.type(x.let(w.z, w.z, w.v0)), -5);
        due("LET's variable in the type", x.type(x.let(w.set, w.n, w.fn(w.v0, w.v0))), w.pi(w.n, w.n));
        due("LET's value is not known below it", x.type(x.let(w.set, w.n, w.app(w.s, w.fn(w.v0, w.v0)))), -4);
        due("LET whose type is one by steps", x.type(x.let(w.app(w.fn(w.set, w.v0), w.n), w.z, w.v0)),
            w.app(w.fn(w.set, w.v0), w.n));
        due("LET, outer variables one less", x.type(w.fn(w.set, x.let(w.n, w.z, w.fn(w.v1, w.v0)))),
            w.pi(w.set, w.pi(w.v0, w.v1)));
        due("LET below a binder", x.type(w.fn(w.set, x.let(w.set, w.v0, w.fn(w.v0, w.v0)))),
            w.pi(w.set, w.pi(w.v0, w.v1)));
        int upToP = x.level(IMAX, w.one, w.p0);
        due("LET, SAME but for levels", x.type(x.let(x.sort(x.level(UP, upToP, 0)), w.sortP, w.z)), w.n);
    }

    // Promise 10: the first reason that is met.
    private static void typeReasonsInOrder() {
        World w = new World();
        Counted x = w.x;
        int one = w.v0, two = w.app(w.z, w.z), three = w.app(w.s, w.s), four = w.fn(w.z, w.z), six = x.let(w.n, w.s, w.v0);
        int[] bad = {one, two, three, four, six};
        int[] due = {-2, -3, -4, -5, -7};
        for (int i = 0; i < bad.length; i++) {
            for (int j = 0; j < bad.length; j++) {
                due("APPLY, f before a", x.type(w.app(bad[i], bad[j])), due[i]);
                due("PI, A before B", x.type(w.pi(bad[i], bad[j])), due[i]);
                due("LAMBDA, A before b", x.type(w.fn(bad[i], bad[j])), due[i]);
                due("LET, A before v", x.type(x.let(bad[i], bad[j], w.z)), due[i]);
                due("LET, v before b", x.type(x.let(w.n, bad[i], bad[j])), due[i]);
            }
            due("f is no function before a is met", x.type(w.app(w.z, bad[i])), -3);
            due("A is no sort before B is met", x.type(w.pi(w.z, bad[i])), -5);
            due("A is no sort before b is met", x.type(w.fn(w.z, bad[i])), -5);
            due("A is no sort before v is met", x.type(x.let(w.z, bad[i], w.z)), -5);
            due("v is wrong before b is met", x.type(x.let(w.n, w.s, bad[i])), -7);
        }
        due("a is met before it is wrong", x.type(w.app(w.s, w.fn(w.z, w.z))), -5);
        due("b alone", x.type(x.let(w.n, w.z, two)), -3);
    }

    // Promise 10: reason 5.
    private static void typeTooMuch() {
        World w = new World();
        Counted x = w.x;
        int l = 0;
        for (int k = 0; k < 7; k++) l = x.level(UP, l, 0);
        int t = x.sort(l);
        for (int size = 9; size <= 16; size++) {
            t = x.type(t);
            due("size of the level", x.levelPart(x.part(t, 1), 3), size);
        }
        due("UP of a level of size 16", x.type(t), -6);
        int l9 = x.part(x.type(x.sort(l)), 1), l7 = x.levelPart(x.levelPart(l9, 1), 1);
        int c = x.declare(2, w.pi(x.sort(x.level(MAX, w.p0, w.p1)), x.sort(x.level(IMAX, w.p0, w.p1))), NONE);
        due("a name's levels of sizes 9 and 7: 17", x.type(x.name(c, l9, l7)), -6);
        due("a name's levels of sizes 7 and 7: 15", x.type(x.name(c, l7, l7)) >= 0, true);
        due("sizes 8 and 7: 16", x.type(x.name(c, l, l7)) >= 0, true);
        int nn2 = w.pi(w.nn, w.nn);
        due("level of (N to N) to (N to N)", x.levelPart(x.part(x.type(nn2), 1), 3), 11);
        due("level of N to that", x.levelPart(x.part(x.type(w.pi(w.n, nn2)), 1), 3), 14);
        due("IMAX of sizes 11 and 11", x.type(w.pi(nn2, nn2)), -6);
        int l6 = x.levelPart(l7, 1);
        due("IMAX of sizes 8 and 7", x.levelPart(x.part(x.type(w.pi(x.sort(l7), x.sort(l6))), 1), 3), 16);
        due("IMAX of sizes 9 and 7", x.type(w.pi(x.sort(l), x.sort(l6))), -6);
        due("IMAX of sizes 8 and 8", x.type(w.pi(x.sort(l7), x.sort(l7))), -6);
        World y = new World();
        int far = y.chain(y.set, y.n, 30);
        int f = y.axiom(0, y.pi(y.n, y.prop));
        due("a sort by 30 steps", y.x.type(y.fn(far, y.z)), y.pi(far, y.n));
        int v = y.axiom(0, far);
        due("an argument's type by 30 steps", y.x.type(y.app(f, v)), y.prop);
        int farther = y.define(0, y.set, far);
        due("31 steps, not asked for", y.x.type(farther), y.set);
        due("31 steps, for a LET's type", y.x.type(y.x.let(farther, y.z, y.prop)), -6);
        int u = y.axiom(0, farther);
        due("31 steps, for an argument's type", y.x.type(y.app(f, u)), -6);
        due("31 steps, for a function's type", y.x.type(y.app(u, y.z)), -6);
        due("31 steps, before the argument is met", y.x.type(y.app(u, y.v0)), -6);
        largeTypes();
    }

    // Promise 10: reason 5, by size.
    private static void largeTypes() {
        World w = new World();
        Counted x = w.x;
        int pred = w.axiom(0, w.pi(w.n, w.pi(w.n, w.prop)));
        int add = w.axiom(0, w.pi(w.n, w.nn));
        int ten = w.z;
        for (int k = 0; k < 24; k++) ten = w.app(w.s, ten);
        due("its size", x.part(ten, 4), 49);
        int two = w.app(add, w.v0, w.v0), three = w.app(add, two, w.v0);
        int small = w.axiom(0, w.pi(w.n, w.app(pred, two, w.v0)));
        int large = w.axiom(0, w.pi(w.n, w.app(pred, three, w.v0)));
        int type = x.type(w.app(small, ten));
        due("a type with three of them", x.part(type, 4), 3 * 49 + 6);
        due("a type with four of them", x.type(w.app(large, ten)), -6);
        int smallProof = w.app(small, ten);
        due("a LAMBDA's type", x.part(x.type(w.fn(w.n, smallProof)), 4), 3 * 49 + 8);
        int proof = w.axiom(0, type);
        int a43 = w.app(pred, w.ofSize(21), w.ofSize(19)), a45 = w.app(pred, w.ofSize(21), w.ofSize(21));
        int a46 = x.let(w.n, w.z, a43), a47 = w.app(pred, w.ofSize(23), w.ofSize(21));
        int a48 = x.let(w.n, w.z, a45);
        due("a LAMBDA's type of size 199", x.part(x.type(w.fn(a45, proof)), 4), 199);
        due("a LAMBDA's type of size 200", x.part(x.type(w.fn(a46, proof)), 4), 200);
        due("a LAMBDA's type of size 201", x.type(w.fn(a47, proof)), -6);
        due("a LAMBDA's type of size 202", x.type(w.fn(a48, proof)), -6);
        int little = w.app(small, w.app(w.s, w.z));
        due("a small one's type", x.part(x.type(little), 4), 3 * 3 + 6);
        int body = w.app(small, w.v0);
        due("a LET's type, three times", x.part(x.type(x.let(w.n, ten, body)), 4), 3 * 49 + 6);
        due("a LET's type, four times", x.type(x.let(w.n, ten, w.app(large, w.v0))), -6);
        due("a LET's type, too large before", x.type(x.let(w.n, w.z, w.app(large, ten))), -6);
    }

    // Promises 11 and 12.
    private static void normal() {
        World w = new World();
        Counted x = w.x;
        for (int t : new int[] {w.prop, w.n, w.s, w.v0, w.nn}) {
            due("normal of what has no step", x.normal(t), t);
            due("its steps", x.steps(t), 0);
        }
        int id = w.fn(w.n, w.v0);
        due("id z", x.normal(w.app(id, w.z)), w.z);
        due("its steps", x.steps(w.app(id, w.z)), 1);
        due("LET", x.normal(x.let(w.n, w.z, w.app(w.s, w.v0))), w.app(w.s, w.z));
        due("variables farther out are one less", x.normal(x.let(w.n, w.z, w.app(w.v2, w.v1))), w.app(w.v1, w.v0));
        due("binders around v are counted", x.normal(x.let(w.n, w.v0, w.fn(w.n, w.fn(w.n, w.app(w.v2, x.variable(3)))))),
            w.fn(w.n, w.fn(w.n, w.app(w.v2, w.v2))));
        due("bound variables stay", x.normal(x.let(w.n, w.v1, w.fn(w.v0, w.app(w.v0, w.v1)))),
            w.fn(w.v1, w.app(w.v0, w.v2)));
        due("variables of v below its own binders", x.normal(x.let(w.n, w.fn(w.n, w.app(w.v0, w.v1)), w.fn(w.n, w.v1))),
            w.fn(w.n, w.fn(w.n, w.app(w.v0, w.v2))));
        due("PI and LET below a step", x.normal(w.app(w.fn(w.n, w.pi(w.v0, x.let(w.v1, w.v1, w.app(w.v0, w.v2)))), w.s)),
            w.pi(w.s, w.app(w.s, w.s)));
        due("without a type", x.normal(w.app(w.fn(w.z, w.app(w.v0, w.v0)), w.n)), w.app(w.n, w.n));
        int p0Id = x.declare(1, w.pi(w.sortP, w.pi(w.v0, w.v1)), w.fn(w.sortP, w.fn(w.v0, w.v0)));
        int two = x.level(UP, w.one, 0);
        due("a name's value with its levels", x.normal(x.name(p0Id, two, 0)), w.fn(x.sort(two), w.fn(w.v0, w.v0)));
        int c = x.declare(2, x.type(w.pi(x.sort(w.p1), w.sortP)), w.pi(x.sort(w.p1), w.sortP));
        due("both levels at once", x.normal(x.name(c, w.p1, w.p0)), w.pi(w.sortP, x.sort(w.p1)));
        due("a name without value", x.normal(x.name(0, two, w.p1)), x.name(0, two, w.p1));
        Counted y = new Counted();
        int first = y.declare(0, y.sort(y.level(UP, 0, 0)), y.sort(0));
        due("the first name's value", y.normal(y.name(first, 0, 0)), y.sort(0));
        int omega = w.fn(w.n, w.app(w.v0, w.v0));
        due("no end", x.normal(w.app(omega, omega)), OUT);
        due("steps without end", x.steps(w.app(omega, omega)), OUT);
        refused("normal(-1)", x, INDEX, () -> x.normal(-1));
        refused("steps(-1)", x, INDEX, () -> x.steps(-1));
        refused("normal of none", x, INDEX, () -> x.normal(x.told(1)));
        refused("steps of none", x, INDEX, () -> x.steps(x.told(1)));
    }

    // Promises 11 and 12: the next step.
    private static void normalOrder() {
        World w = new World();
        Counted x = w.x;
        int omega = w.fn(w.n, w.app(w.v0, w.v0)), out = w.app(omega, omega);
        due("a value that is not used is never met", x.normal(w.app(w.fn(w.n, w.z), out)), w.z);
        due("its steps", x.steps(w.app(w.fn(w.n, w.z), out)), 1);
        due("LET's type is never met", x.steps(x.let(out, w.z, w.v0)), 1);
        due("LAMBDA's type is never met", x.steps(w.app(w.fn(out, w.v0), w.z)), 1);
        due("a PI's is", x.steps(w.pi(out, w.z)), OUT);
        due("a LAMBDA's too", x.steps(w.fn(out, w.z)), OUT);
        int idz = w.app(w.fn(w.n, w.v0), w.z);
        due("twice, as it is copied before", x.steps(w.app(w.fn(w.n, w.app(w.v0, w.v0)), idz)), 3);
        due("the term before its parts", x.steps(x.let(w.n, idz, w.app(w.v0, w.app(w.v0, w.v0)))), 4);
        due("in all parts", x.steps(w.pi(idz, w.fn(idz, w.app(idz, idz)))), 4);
        due("f becomes a LAMBDA", x.steps(w.app(w.app(w.fn(w.n, w.fn(w.n, w.v0)), out), w.z)), 2);
        int k = w.define(0, w.pi(w.n, w.nn), w.fn(w.n, w.fn(w.n, w.v1)));
        due("a name in f", x.steps(w.app(k, w.z, out)), 3);
        due("its normal form", x.normal(w.app(k, w.z, out)), w.z);
    }

    // Promise 11: what shrinks behind the last step.
    private static void eta() {
        World w = new World();
        Counted x = w.x;
        due("LAMBDA (s 0)", x.normal(w.fn(w.n, w.app(w.s, w.v0))), w.s);
        due("no step is that", x.steps(w.fn(w.n, w.app(w.s, w.v0))), 0);
        due("variables one less", x.normal(w.fn(w.n, w.app(w.v1, w.v0))), w.v0);
        int own = w.fn(w.n, w.app(w.v0, w.v0));
        due("f has this variable", x.normal(own), own);
        int other = w.fn(w.n, w.app(w.s, w.v1));
        due("another argument", x.normal(other), other);
        int within = w.fn(w.n, w.fn(w.n, w.app(w.v2, w.v1, w.v0)));
        due("from within outward", x.normal(within), w.v0);
        int deep = w.fn(w.n, w.app(w.fn(w.n, w.app(w.v2, w.v1, w.v0)), w.v0));
        due("behind steps", x.normal(deep), w.fn(w.n, w.app(w.v1, w.v0, w.v0)));
        int gone = w.fn(w.n, w.app(w.app(w.s, w.fn(w.app(w.z, w.v0), w.app(w.s, w.v0))), w.v0));
        due("the variable goes with a LAMBDA within", x.normal(gone), w.app(w.s, w.s));
        int pi = w.pi(w.n, w.app(w.s, w.v0));
        due("no PI shrinks", x.normal(pi), pi);
        due("in a PI", x.normal(w.pi(w.n, w.fn(w.n, w.app(w.v1, w.v0)))), w.pi(w.n, w.v0));
        due("in a LAMBDA's type", x.normal(w.fn(w.fn(w.n, w.app(w.s, w.v0)), w.v0)), w.fn(w.s, w.v0));
        int bound = w.fn(w.n, w.app(w.fn(w.n, w.app(w.v0, w.v1)), w.v0));
        due("a step makes another", x.normal(bound), own);
        int below = w.fn(w.n, w.app(w.app(w.v1, w.fn(w.n, w.app(w.v0, w.v0))), w.v0));
        due("f has a binder of its own", x.normal(below), w.app(w.v0, own));
        int stepWithin = w.fn(w.n, w.app(w.app(w.v1, w.fn(w.n, x.let(w.n, w.z, w.app(w.z, w.v2)))), w.v0));
        due("f has this variable in what a step made", x.normal(stepWithin),
            w.fn(w.n, w.app(w.app(w.v1, w.fn(w.n, w.app(w.z, w.v1))), w.v0)));
        int stepBefore = w.fn(x.let(w.set, w.n, w.v0), w.app(w.app(w.v1, w.fn(w.n, w.app(w.z, w.v1))), w.v0));
        due("f has this variable, behind a step", x.normal(stepBefore),
            w.fn(w.n, w.app(w.app(w.v1, w.fn(w.n, w.app(w.z, w.v1))), w.v0)));
        due("f has this variable below a binder", x.normal(w.fn(w.n, w.app(w.app(w.z, w.fn(w.n, w.app(w.v0, w.v1))), w.v0))),
            w.fn(w.n, w.app(w.app(w.z, w.fn(w.n, w.app(w.v0, w.v1))), w.v0)));
    }

    // Promises 11, 12 and 13: 30 steps.
    private static void stepBound() {
        World w = new World();
        Counted x = w.x;
        int c30 = w.chain(w.n, w.z, 30), c31 = w.define(0, w.n, c30);
        due("30 steps", x.steps(c30), 30);
        due("their end", x.normal(c30), w.z);
        due("31 steps", x.steps(c31), OUT);
        due("no end", x.normal(c31), OUT);
        due("same, the first is OUT", x.same(c31, w.z), OUT);
        due("same, the second is OUT", x.same(w.z, c31), OUT);
        due("same, both are OUT", x.same(c31, c31), OUT);
        due("same with 30 steps", x.same(c30, w.z), 1);
        due("30 and 1 steps", x.steps(w.app(c30, x.let(w.n, w.z, w.v0))), OUT);
    }

    // Promises 11, 12 and 13: a size of 200.
    private static void sizeBound() {
        World w = new World();
        Counted x = w.x;
        int fits = x.let(w.n, w.ofSize(19), w.copies(10));
        int done = x.normal(fits);
        due("a normal form of size 199", x.part(done, 4), 199);
        due("its steps", x.steps(fits), 1);
        due("one of size 201", x.normal(x.let(w.n, w.ofSize(19), w.app(w.s, w.copies(10)))), OUT);
        due("steps to size 201", x.steps(x.let(w.n, w.ofSize(19), w.app(w.s, w.copies(10)))), OUT);
        int even = x.let(w.n, w.ofSize(21), x.let(w.n, w.copies(9), w.z));
        due("size 200 between two steps", x.normal(even), w.z);
        due("its steps", x.steps(even), 2);
        int over = x.let(w.n, w.ofSize(21), x.let(w.n, w.app(w.s, w.copies(9)), w.z));
        due("size 202 between two steps", x.normal(over), OUT);
        due("steps over size 202", x.steps(over), OUT);
        due("same, OUT by size", x.same(over, w.z), OUT);
        int aside = w.app(w.ofSize(27), x.let(w.n, w.ofSize(13), w.copies(6)));
        due("the whole term counts", x.part(x.normal(aside), 4), 1 + 27 + 83);
        due("a type of size 199 is asked for no more", x.type(done), -3);
        int a = x.part(x.normal(x.let(w.n, w.ofSize(19), w.copies(5))), 4);
        due("size of five of them", a, 99);
    }

    // Promises 11 and 12: a level of size 16.
    private static void levelBoundInSteps() {
        World w = new World();
        Counted x = w.x;
        int max = x.level(MAX, w.p0, w.p1), both = x.sort(max);
        int c = x.declare(2, x.type(both), both);
        int l = 0;
        for (int k = 0; k < 6; k++) l = x.level(UP, l, 0);
        int seven = l, eight = x.level(UP, l, 0);
        int made = x.normal(x.name(c, seven, eight));
        due("a level of size 16 by a step", x.levelPart(x.part(made, 1), 3), 16);
        due("a level of size 17 by a step", x.normal(x.name(c, eight, eight)), OUT);
        due("its steps", x.steps(x.name(c, eight, eight)), OUT);
        due("where it goes at the next step", x.steps(w.app(w.fn(w.n, w.z), x.name(c, eight, eight))), 1);
        due("where it came before", x.steps(w.app(x.name(c, eight, eight), w.z)), OUT);
        int inName = x.declare(2, x.type(x.name(0, 0, max)), x.name(0, 0, max));
        due("a name's second level", x.normal(x.name(inName, eight, eight)), OUT);
        due("a name's second level of size 16", x.levelPart(x.part(x.normal(x.name(inName, eight, seven)), 3), 3), 16);
    }

    // Promise 13.
    private static void same() {
        World w = new World();
        Counted x = w.x;
        due("one", x.same(w.z, w.z), 1);
        due("another", x.same(w.z, w.n), 0);
        due("by steps", x.same(w.app(w.fn(w.n, w.v0), w.z), x.let(w.n, w.z, w.v0)), 1);
        due("by shrinking", x.same(w.fn(w.n, w.app(w.s, w.v0)), w.s), 1);
        int pq = x.level(MAX, w.p0, w.p1), qp = x.level(MAX, w.p1, w.p0);
        due("SORTs of levels that are the SAME", x.same(x.sort(pq), x.sort(qp)), 1);
        due("SORTs of others", x.same(x.sort(pq), x.sort(w.p0)), 0);
        due("at most is not the same", x.same(x.sort(w.p0), x.sort(pq)), 0);
        due("names, first levels the SAME", x.same(x.name(0, pq, 0), x.name(0, qp, 0)), 1);
        due("names, second levels the SAME", x.same(x.name(0, 0, qp), x.name(0, 0, pq)), 1);
        due("names, first levels not", x.same(x.name(0, 0, 0), x.name(0, w.one, 0)), 0);
        due("names, second levels not", x.same(x.name(0, 0, 0), x.name(0, 0, w.one)), 0);
        due("names", x.same(w.n, w.z), 0);
        due("variables", x.same(w.v0, w.v1), 0);
        due("PI and LAMBDA", x.same(w.pi(w.n, w.z), w.fn(w.n, w.z)), 0);
        due("another size", x.same(w.app(w.s, w.z), w.s), 0);
        due("another shape", x.same(w.app(w.app(w.s, w.z), w.z), w.app(w.s, w.app(w.z, w.z))), 0);
        due("LAMBDA's types count", x.same(w.fn(w.n, w.v0), w.fn(w.set, w.v0)), 0);
        refused("same(-1, 0)", x, INDEX, () -> x.same(-1, 0));
        refused("same(0, none)", x, INDEX, () -> x.same(0, x.told(1)));
        int terms = x.told(1);
        x.same(w.app(w.fn(w.n, w.v0), w.app(w.z, w.v2)), w.z);
        x.steps(w.app(w.fn(w.n, w.app(w.v0, w.v0)), w.app(w.z, w.v2)));
        due("same and steps give no numbers but those asked for", x.told(1), terms + 5);
    }

    // Promises 14 and 17.
    private static void declare() {
        Counted x = new Counted();
        int prop = x.sort(0), one = x.level(UP, 0, 0), set = x.sort(one), p0 = x.level(PARAMETER, 0, 0);
        due("declare", x.declare(0, prop, NONE), 0);
        due("declare the same", x.declare(0, prop, NONE), 1);
        due("with a value", x.declare(1, set, prop), 2);
        due("with parameters", x.declare(2, x.sort(p0), NONE), 3);
        int[][] names = {{0, prop, NONE}, {0, prop, NONE}, {1, set, prop}, {2, x.sort(p0), NONE}};
        for (int c = 0; c < names.length; c++) {
            for (int k = 0; k < 3; k++) due("declared(" + c + ", " + k + ")", x.declared(c, k), names[c][k]);
        }
        due("terms", x.told(1), 3);
        due("levels", x.told(0), 3);
        due("names", x.told(2), 4);
        for (int n : new int[] {-1, 3, Integer.MAX_VALUE}) {
            refused("declare with " + n + " parameters", x, ARGUMENT, () -> x.declare(n, prop, NONE));
            refused("declare with " + n + " parameters, of none", x, ARGUMENT, () -> x.declare(n, -1, 99));
        }
        refused("declare of no type", x, INDEX, () -> x.declare(0, -1, NONE));
        refused("declare of another's type", x, INDEX, () -> x.declare(0, 3, NONE));
        refused("declare of no value", x, INDEX, () -> x.declare(0, prop, -2));
        refused("declare of another's value", x, INDEX, () -> x.declare(0, prop, 3));
        for (int c : new int[] {-1, 4}) {
            refused("declared(" + c + ", 0)", x, INDEX, () -> x.declared(c, 0));
            refused("declared(" + c + ", 9)", x, INDEX, () -> x.declared(c, 9));
        }
        refused("declared(0, 3)", x, ARGUMENT, () -> x.declared(0, 3));
        refused("declared(0, -1)", x, ARGUMENT, () -> x.declared(0, -1));
    }

    // Promise 14: reasons.
    private static void declareReasons() {
        World w = new World();
        Counted x = w.x;
        int names = x.told(2), p2 = x.sort(x.level(PARAMETER, 2, 0)), sortP1 = x.sort(w.p1);
        due("8: parameter 0 of none", x.declare(0, w.sortP, NONE), -9);
        due("8: parameter 1 of one", x.declare(1, sortP1, NONE), -9);
        due("8: parameter 2 of two", x.declare(2, p2, NONE), -9);
        due("8: in the value", x.declare(0, w.set, w.sortP), -9);
        due("8: in a name's first level", x.declare(0, x.name(0, w.p0, 0), NONE), -9);
        due("8: in a name's second level", x.declare(0, w.n, w.app(w.s, x.name(1, 0, w.p1))), -9);
        due("8: within a level", x.declare(1, x.sort(x.level(IMAX, w.p0, x.level(UP, w.p1, 0))), NONE), -9);
        due("8 before 1", x.declare(0, w.pi(w.v0, w.sortP), NONE), -9);
        due("8 in the value before 4 in the type", x.declare(0, w.z, w.sortP), -9);
        due("1: a type that is not closed", x.declare(0, w.v0, NONE), -2);
        due("1: when that variable is met", x.declare(0, w.pi(w.z, w.v2), NONE), -5);
        due("2", x.declare(0, w.app(w.z, w.z), NONE), -3);
        due("3", x.declare(0, w.app(w.s, w.s), NONE), -4);
        due("4: no sort", x.declare(0, w.z, NONE), -5);
        due("4: before the value is met", x.declare(0, w.z, w.v0), -5);
        due("1: a value that is not closed", x.declare(0, w.n, w.v0), -2);
        due("2 in the value", x.declare(0, w.n, w.app(w.z, w.z)), -3);
        due("6 in the value", x.declare(0, w.n, x.let(w.n, w.s, w.z)), -7);
        due("7: another type's value", x.declare(0, w.n, w.s), -8);
        due("7: another level's", x.declare(2, w.set, x.sort(w.p0)), -8);
        int omega = w.fn(w.n, w.app(w.v0, w.v0));
        due("2 before what has no end", x.declare(0, w.app(omega, omega), NONE), -3);
        due("names are as many", x.told(2), names);
        due("SAME by steps", x.declare(0, x.let(w.set, w.n, w.v0), w.z), names);
        due("SAME but for levels", x.declare(2, x.sort(x.level(UP, x.level(MAX, w.p0, w.p1), 0)),
            x.sort(x.level(MAX, w.p1, w.p0))), names + 1);
        due("a value with a LET", x.declare(0, w.n, x.let(w.n, w.z, w.app(w.s, w.v0))), names + 2);
        World y = new World();
        int far = y.chain(y.set, y.n, 30), farther = y.define(0, y.set, far);
        due("5: a type that is needed is OUT", y.x.declare(0, farther, y.z), -6);
        due("it is not needed without a value", y.x.declare(0, farther, NONE), 34);
        due("5: the value's type is OUT", y.x.declare(0, y.n, y.x.name(34, 0, 0)), -6);
        due("30 steps for a type", y.x.declare(0, far, y.z), 35);
    }

    // Promises 14 and 17: 40 names.
    private static void declareBounds() {
        Counted x = new Counted();
        int prop = x.sort(0);
        for (int c = 0; c < 40; c++) due("declare", x.declare(c % 3, prop, NONE), c);
        refused("a 41st name", x, TOO_MANY, () -> x.declare(0, prop, NONE));
        refused("a 41st name that has a reason", x, TOO_MANY, () -> x.declare(0, prop, prop));
        refused("a 41st name of no type", x, INDEX, () -> x.declare(0, 9, NONE));
        refused("a 41st name of no value", x, INDEX, () -> x.declare(0, prop, 9));
        refused("a 41st name of 3 parameters", x, ARGUMENT, () -> x.declare(3, 9, NONE));
        due("the last name", x.part(x.name(39, 0, 0), 1), 39);
        due("its parameters", x.declared(39, 0), 0);
        due("another's", x.declared(38, 0), 2);
    }

    // Promise 15.
    private static void parts() {
        World w = new World();
        Counted x = w.x;
        int t = x.let(w.nn, w.fn(w.n, w.v1), w.app(w.v2, w.pi(w.v0, x.variable(5))));
        due("kind", x.part(t, 0), LET);
        due("type", x.part(t, 1), w.nn);
        due("value", x.part(t, 2), w.fn(w.n, w.v1));
        due("size", x.part(t, 4), 1 + 3 + 3 + 5);
        due("binders that it wants", x.part(t, 5), 4);
        due("binders that its value wants", x.part(x.part(t, 2), 5), 1);
        int raised = x.normal(x.let(w.n, x.variable(59), w.fn(w.n, w.v1)));
        due("a variable beyond 59 in an answer", x.part(x.part(raised, 2), 1), 60);
        due("binders that it wants", x.part(raised, 5), 60);
        refused("the same, asked for", x, ARGUMENT, () -> x.variable(60));
    }

    // Promises 10 and 11: numbers.
    private static void numbersOfAnswers() {
        Counted x = new Counted();
        int p0 = x.level(PARAMETER, 0, 0), p1 = x.level(PARAMETER, 1, 0);
        int s0 = x.sort(p0), s1 = x.sort(p1), v0 = x.variable(0);
        int t = x.term(PI, s0, x.term(PI, s1, x.sort(0)));
        int terms = x.told(1), levels = x.told(0);
        int type = x.type(t);
        due("one term more", x.told(1), terms + 1);
        due("its number", type, terms);
        int l = x.part(type, 1);
        due("its level is the last", l, x.told(0) - 1);
        int[][] due = {{UP, p0, NONE}, {UP, p1, NONE}, {UP, 0, NONE}, {IMAX, levels + 1, levels + 2}, {IMAX, levels, levels + 3}};
        due("levels", x.told(0), levels + due.length);
        for (int i = 0; i < due.length; i++) {
            for (int k = 0; k < 3; k++) due("level " + (levels + i) + " part " + k, x.levelPart(levels + i, k), due[i][k]);
        }
        due("asked again", x.type(t), type);
        due("no more levels", x.told(0), levels + due.length);
        int f = x.term(LAMBDA, v0, x.term(PI, x.term(APPLY, v0, x.variable(1)), x.let(v0, x.variable(2), x.variable(1))));
        int a = x.term(APPLY, f, s1);
        terms = x.told(1);
        int n = x.normal(a);
        int[][] parts = {{APPLY, s1, v0, NONE}, {PI, terms, v0, NONE}};
        due("the normal form's number", n, terms + 1);
        for (int i = 0; i < parts.length; i++) {
            for (int k = 0; k < 4; k++) due("term " + (terms + i) + " part " + k, x.part(terms + i, k), parts[i][k]);
        }
        due("a normal form's number that is there", x.normal(n), n);
        int c = x.declare(2, x.type(x.sort(0)), NONE);
        int two = x.level(UP, x.level(UP, 0, 0), 0), max = x.level(MAX, p0, p1);
        int d = x.declare(2, x.type(x.sort(0)), x.name(c, max, x.level(IMAX, p1, p0)));
        levels = x.told(0);
        terms = x.told(1);
        int unfolded = x.normal(x.name(d, two, x.level(UP, p1, 0)));
        due("a name's number", unfolded, terms + 1);
        due("its first level comes first", x.part(unfolded, 2), levels);
        due("then its second", x.part(unfolded, 3), levels + 1);
    }

    // Promises 2 and 10: 300 levels.
    private static void fullLevels() {
        World w = new World();
        Counted x = w.x;
        int l = 0;
        for (int k = 0; k < 6; k++) l = x.level(UP, l, 0);
        int deep = x.sort(l), proof = w.pi(deep, w.prop);
        // Sizes are counted here, not asked for, as an object is good for 512 calls.
        int[] size = new int[300];
        int levels = x.told(0);
        for (int k = 0; k < levels; k++) size[k] = x.levelPart(k, 3);
        for (int a = 0; a < levels && levels < 299; a++) {
            for (int b = 0; b < levels && levels < 299; b++) {
                if (size[a] + size[b] < 8 && x.level(MAX, a, b) == levels) size[levels++] = size[a] + size[b] + 1;
            }
        }
        due("levels", x.told(0), 299);
        refused("an answer with two levels more, where one has room", x, TOO_MANY, () -> x.type(proof));
        due("an answer with one", x.part(x.type(deep), 1), 299);
        due("levels", x.told(0), 300);
        refused("an answer's level", x, TOO_MANY, () -> x.type(proof));
        refused("one more level", x, TOO_MANY, () -> x.level(IMAX, w.one, 0));
        due("a level that is there", x.level(UP, 0, 0), w.one);
        due("an answer that is there", x.type(w.z), w.n);
        due("a reason", x.type(w.v0), -2);
        due("steps", x.normal(w.app(w.fn(w.n, w.v0), w.z)), w.z);
    }

    // Promises 5 to 11: 1500 terms.
    private static void fullTerms() {
        World w = new World();
        Counted x = w.x;
        boolean full = false;
        for (int head : new int[] {w.z, w.s, w.n, w.set}) {
            int many = w.manyTerms(head);
            for (int i = 10; i < 60 && !full; i += 8) {
                int t = x.let(w.z, x.variable(i), many);
                int levels = x.told(0), before = x.told(1);
                try {
                    x.normal(t);
                    due("many terms more", x.told(1) > before + 80, true);
                } catch (UnsupportedOperationException e) {
                    full = true;
                    due("levels behind that", x.told(0), levels);
                    due("terms behind that", x.told(1), before);
                }
            }
        }
        due("the room ran out", full, true);
        due("near its end", x.told(1) > 1350 && x.told(1) < 1500, true);
        int last = w.n;
        for (int k = 0; k < 144 && x.told(1) < 1500; k++) last = w.pi(k % 12, k / 12);
        int end = last;
        due("terms", x.told(1), 1500);
        refused("one more term", x, TOO_MANY, () -> w.pi(end, w.set));
        refused("one more LET", x, TOO_MANY, () -> x.let(end, end, w.set));
        refused("one more SORT", x, TOO_MANY, () -> x.sort(w.p1));
        refused("one more VARIABLE", x, TOO_MANY, () -> x.variable(9));
        refused("one more NAME", x, TOO_MANY, () -> x.name(0, w.p1, w.p1));
        refused("one more type", x, TOO_MANY, () -> x.type(w.set));
        due("a term that is there", w.pi(w.n, w.n), w.nn);
        due("a type that is there", x.type(w.z), w.n);
        due("a normal form that is there", x.normal(end), end);
    }

    // Promise 19.
    private static void clear() {
        World w = new World();
        Counted x = w.x;
        x.type(w.nn);
        x.clear();
        due("levels", x.told(0), 1);
        due("terms", x.told(1), 0);
        due("names", x.told(2), 0);
        due("level 0", x.levelPart(0, 0), ZERO);
        refused("level 1", x, INDEX, () -> x.levelPart(1, 0));
        refused("term 0", x, INDEX, () -> x.part(0, 0));
        refused("name 0", x, INDEX, () -> x.declared(0, 0));
        due("the first level", x.level(PARAMETER, 2, 0), 1);
        due("the first term", x.variable(7), 0);
        due("a sort", x.sort(1), 1);
        due("its part", x.part(1, 1), 1);
        due("a declaration", x.declare(0, 1, NONE), -9);
        due("the first name", x.declare(0, x.sort(0), NONE), 0);
        int c = x.name(0, 0, 0);
        due("no value of before", x.steps(c), 0);
        x.clear();
        x.clear();
        due("levels, twice", x.told(0), 1);
    }

    // Promises 10 and 11: as deep as terms can be, 99 APPLYs one in another, as an answer.
    private static void deepTerms() {
        World w = new World();
        Counted x = w.x;
        int deep = w.z, asked = w.z;
        for (int more : new int[] {28, 28, 28, 15}) {
            asked = w.define(0, w.n, deep);
            for (int k = 0; k < more; k++) asked = w.app(w.s, asked);
            deep = x.normal(asked);
        }
        due("its size", x.part(deep, 4), 199);
        due("its type", x.type(deep), w.n);
        due("its normal form", x.normal(deep), deep);
        due("same", x.same(deep, asked), 1);
        due("steps", x.steps(asked), 1);
        due("as a value", x.declare(0, w.n, deep), x.told(2) - 1);
        due("one of size 201", x.normal(w.app(w.s, x.name(x.told(2) - 1, 0, 0))), OUT);
        int binders = w.v0;
        for (int k = 0; k < 29; k++) binders = w.fn(w.n, binders);
        int type = x.type(binders);
        due("a type below 29 binders", x.part(type, 4), 59);
        due("kind", x.part(type, 0), PI);
    }
}
