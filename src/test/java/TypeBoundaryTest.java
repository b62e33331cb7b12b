/** The boundary cases of typing: promise 10. A remark at each test names its promise and its sentence. */
public final class TypeBoundaryTest extends Bench {
    public static void main(String[] args) {
        noSuchTerm();
        sortLevels();
        variableAndBinders();
        variableFromWhereItStands();
        nameLevels();
        piLevels();
        toBeOfSort();
        lambdaSizes();
        applyNoFunction();
        applyBelowBinders();
        applyWrongArgument();
        applySizes();
        letWrongValue();
        letSizes();
        tooLargeWithin();
        levelTooLargeWithin();
        neededForSort();
        neededForFunction();
        neededForArgument();
        neededForLet();
        outBySizeOrLevel();
        notNeeded();
        firstReasonOfTwo();
        reasonBeforeTheNextPart();
        bindersBelowEachOther();
        deepest();
        numbersOfATypeWithLet();
        finish();
    }

    private static void dueReason(String what, World w, int term, int reason) {
        unchanged(what, w.x, NONE - reason, () -> w.x.type(term));
    }

    private static void dueSize(String what, World w, int term, int size) {
        int type = w.x.type(term);
        due(what, type < 0 ? type : w.x.part(type, 4), size);
    }

    private static void dueLevelSize(String what, World w, int term, int size) {
        int type = w.x.type(term);
        due(what, type < 0 ? type : w.x.levelPart(w.x.part(type, 1), 3), size);
    }

    /** Names that take 30 and 31 steps to their end, and one of the type of each. */
    private static final class Far {
        final int at30, at31, of30, of31;

        Far(World w, int type, int end) {
            at30 = w.chain(type, end, 30);
            at31 = w.define(0, type, at30);
            of30 = w.axiom(0, at30);
            of31 = w.axiom(0, at31);
        }
    }

    // Promise 10 and "IndexOutOfBounds: there is no such .. term".
    private static void noSuchTerm() {
        Counted x = new Counted();
        refused("type(0), where there is none", x, INDEX, () -> x.type(0));
        x.sort(0);
        x.variable(0);
        for (int t : new int[] {LEAST, -2, -1, 2, 1500, GREATEST}) refused("type(" + t + ")", x, INDEX, () -> x.type(t));
        unchanged("type of the last", x, -2, () -> x.type(1));
        due("type of the first", x.type(0), 2);
    }

    // Promise 10: "SORT l: SORT (UP l)"; "5: .. or a level in it one above 16".
    private static void sortLevels() {
        World w = new World();
        int t = w.x.sort(w.up(0, 7));
        for (int size = 9; size <= 16; size++) {
            int before = w.x.part(t, 1);
            t = w.x.type(t);
            due("UP of it", w.x.levelPart(w.x.part(t, 1), 1), before);
            due("its size", w.x.levelPart(w.x.part(t, 1), 3), size);
        }
        dueReason("a level of size 17", w, t, 5);
    }

    // Promise 10: "VARIABLE i: the type of its binder .. (1: there is none)".
    private static void variableAndBinders() {
        World w = new World();
        Counted x = w.x;
        dueReason("VARIABLE 0 without a binder", w, w.v0, 1);
        dueReason("VARIABLE 59 without a binder", w, x.variable(59), 1);
        due("VARIABLE 0 below a LAMBDA", x.type(w.fn(w.n, w.v0)), w.nn);
        dueReason("VARIABLE 1 below a LAMBDA", w, w.fn(w.n, w.v1), 1);
        due("VARIABLE 0 below a PI", x.type(w.pi(w.set, w.v0)) >= 0, true);
        dueReason("VARIABLE 1 below a PI", w, w.pi(w.set, w.v1), 1);
        due("VARIABLE 0 below a LET", x.type(x.let(w.n, w.z, w.v0)), w.n);
        dueReason("VARIABLE 1 below a LET", w, x.let(w.n, w.z, w.v1), 1);
        dueReason("A of a LAMBDA is not below it", w, w.fn(w.v0, w.z), 1);
        dueReason("A of a PI is not below it", w, w.pi(w.v0, w.n), 1);
        dueReason("A of a LET is not below it", w, x.let(w.v0, w.z, w.z), 1);
        dueReason("v of a LET is not below it", w, x.let(w.n, w.v0, w.z), 1);
        dueReason("an argument is not below a LAMBDA", w, w.app(w.fn(w.n, w.v0), w.v0), 1);
        due("VARIABLE 1 below two", x.type(w.fn(w.n, w.fn(w.n, w.v1))), w.pi(w.n, w.nn));
        dueReason("VARIABLE 2 below two", w, w.fn(w.n, w.fn(w.n, w.v2)), 1);
        dueReason("below a binder that has ended", w, w.app(w.fn(w.n, w.fn(w.n, w.v1)), w.v1), 1);
        int last = x.variable(28), over = x.variable(29);
        for (int k = 0; k < 29; k++) {
            last = w.fn(w.n, last);
            over = w.fn(w.n, over);
        }
        due("VARIABLE 28 below 29", x.part(x.type(last), 4), 59);
        dueReason("VARIABLE 29 below 29", w, over, 1);
    }

    // Promise 10: "the type of its binder, as it is from here".
    private static void variableFromWhereItStands() {
        World w = new World();
        Counted x = w.x;
        int v3 = x.variable(3);
        due("VARIABLE 0, of VARIABLE 0", x.type(w.fn(w.set, w.fn(w.v0, w.v0))), w.pi(w.set, w.pi(w.v0, w.v1)));
        due("VARIABLE 1, of VARIABLE 0", x.type(w.fn(w.set, w.fn(w.v0, w.fn(w.n, w.v1)))),
            w.pi(w.set, w.pi(w.v0, w.pi(w.n, w.v2))));
        due("a binder in the type stays", x.type(w.fn(w.set, w.fn(w.pi(w.v0, w.v1), w.v0))),
            w.pi(w.set, w.pi(w.pi(w.v0, w.v1), w.pi(w.v1, w.v2))));
        due("below a LET, which goes", x.type(w.fn(w.set, w.fn(w.v0, x.let(w.n, w.z, w.v1)))), w.pi(w.set, w.pi(w.v0, w.v1)));
        due("from farther out", x.type(w.fn(w.set, w.fn(w.v0, w.fn(w.v1, w.fn(w.v2, w.v2))))),
            w.pi(w.set, w.pi(w.v0, w.pi(w.v1, w.pi(w.v2, v3)))));
    }

    // Promise 10: "NAME c: its type, with its levels"; "5: .. or a level in it one above 16".
    private static void nameLevels() {
        World w = new World();
        Counted x = w.x;
        int max = w.max(w.p0, w.p1), seven = w.up(0, 6), eight = w.up(0, 7), p2 = x.level(PARAMETER, 2, 0);
        int c = x.declare(2, x.sort(max), NONE);
        due("its own parameters", x.type(x.name(c, w.p0, w.p1)), x.sort(max));
        due("both at once", x.type(x.name(c, w.p1, w.p0)), x.sort(w.max(w.p1, w.p0)));
        due("PARAMETER 2", x.type(x.name(c, p2, 0)), x.sort(w.max(p2, 0)));
        int n = x.name(0, max, 0), m = x.name(0, 0, max);
        int[] names = {c, x.declare(2, n, NONE), x.declare(2, m, NONE), x.declare(2, w.pi(w.n, m), NONE)};
        for (int k = 0; k < names.length; k++) {
            due("a level of size 16, name " + k, x.type(x.name(names[k], eight, seven)) >= 0, true);
            dueReason("a level of size 17, name " + k, w, x.name(names[k], eight, eight), 5);
        }
        dueLevelSize("its size", w, x.name(c, seven, eight), 16);
        int one = x.declare(1, w.sortP, NONE), sixteen = x.part(x.type(x.name(c, seven, eight)), 1);
        due("a level of size 16 for its parameter", x.part(x.type(x.name(one, sixteen, 0)), 1), sixteen);
        due("a level that is not used", x.part(x.type(x.name(one, 0, sixteen)), 1), 0);
        int far = x.sort(w.up(w.p0, 7));
        for (int k = 0; k < 7; k++) far = x.type(far);
        int last = x.declare(1, far, NONE), l = x.part(x.type(x.name(last, w.p1, 0)), 1);
        for (int k = 0; k < 14; k++) l = x.levelPart(l, 1);
        due("a parameter as the last mark of a level of size 15", l, w.p1);
        dueLevelSize("a level of size 2 for that", w, x.name(last, w.one, 0), 16);
        dueReason("a level of size 3 for that", w, x.name(last, w.up(0, 2), 0), 5);
    }

    // Promise 10: "PI A B: SORT (IMAX p q)"; "5: .. or a level in it one above 16".
    private static void piLevels() {
        World w = new World();
        Counted x = w.x;
        int six = w.up(0, 5), seven = w.up(0, 6), eight = w.up(0, 7);
        due("IMAX p q", x.type(w.pi(w.prop, w.set)), x.sort(w.imax(w.one, w.up(0, 2))));
        due("IMAX q p", x.type(w.pi(w.set, w.prop)), x.sort(w.imax(w.up(0, 2), w.one)));
        dueLevelSize("sizes 8 and 7", w, w.pi(x.sort(seven), x.sort(six)), 16);
        dueLevelSize("sizes 7 and 8", w, w.pi(x.sort(six), x.sort(seven)), 16);
        dueReason("sizes 8 and 8", w, w.pi(x.sort(seven), x.sort(seven)), 5);
        dueReason("sizes 9 and 7", w, w.pi(x.sort(eight), x.sort(six)), 5);
        dueReason("sizes 7 and 9", w, w.pi(x.sort(six), x.sort(eight)), 5);
        int nn2 = w.pi(w.nn, w.nn);
        dueLevelSize("sizes 5 and 5", w, nn2, 11);
        dueLevelSize("sizes 2 and 11", w, w.pi(w.n, nn2), 14);
        dueReason("sizes 2 and 14", w, w.pi(w.n, w.pi(w.n, nn2)), 5);
    }

    // Promise 10: "To be OF SORT p: it is typed, and the normal form of its type is SORT p (4: another one)."
    private static void toBeOfSort() {
        World w = new World();
        Counted x = w.x;
        int type = x.let(w.set, w.n, w.v0), byStep = w.axiom(0, x.let(x.type(w.set), w.set, w.v0));
        due("a type of SORT by a step, in a PI", x.type(w.pi(byStep, byStep)), x.sort(w.imax(w.one, w.one)));
        due("in a LAMBDA", x.type(w.fn(byStep, w.v0)), w.pi(byStep, byStep));
        due("of a LET", x.type(w.pi(type, type)), x.sort(w.imax(w.one, w.one)));
        int[] none = {w.z, w.s, w.app(w.s, w.z), w.fn(w.n, w.v0)};
        for (int t : none) {
            dueReason("A of a PI is term " + t, w, w.pi(t, w.n), 4);
            dueReason("B of a PI is term " + t, w, w.pi(w.n, t), 4);
            dueReason("A of a LAMBDA is term " + t, w, w.fn(t, w.z), 4);
            dueReason("A of a LET is term " + t, w, x.let(t, w.z, w.z), 4);
        }
        dueReason("B of a PI is its variable of N", w, w.pi(w.n, w.v0), 4);
        due("B of a PI is its variable of a SORT", x.type(w.pi(w.prop, w.v0)), x.sort(w.imax(w.one, 0)));
        due("a LAMBDA of PROP", x.type(w.fn(w.prop, w.v0)), w.pi(w.prop, w.prop));
    }

    // Promise 10: "LAMBDA A b: .. PI A T"; "5: .. a type that comes about has a size above 200".
    private static void lambdaSizes() {
        Sizes s = new Sizes();
        World w = s.w;
        int ten = w.ofSize(49), two = w.axiom(0, w.pi(w.n, w.app(s.pred, w.app(s.add, w.v0, w.v0), w.v0)));
        int type = w.x.type(w.app(two, ten)), proof = w.axiom(0, type);
        due("T's size", w.x.part(type, 4), 153);
        dueSize("PI A T of size 199", w, w.fn(s.typeOf(45), proof), 199);
        dueSize("PI A T of size 200", w, w.fn(s.typeOf(46), proof), 200);
        dueReason("PI A T of size 201", w, w.fn(s.typeOf(47), proof), 5);
        dueReason("PI A T of size 202", w, w.fn(s.typeOf(48), proof), 5);
        dueSize("a LAMBDA in a LAMBDA, of size 200", w, w.fn(w.n, w.fn(s.typeOf(44), proof)), 200);
        dueReason("a LAMBDA in a LAMBDA, of size 201", w, w.fn(w.n, w.fn(s.typeOf(45), proof)), 5);
    }

    // Promise 10: "APPLY f a: f is typed, and the normal form of its type is PI A B (2: another one)".
    private static void applyNoFunction() {
        World w = new World();
        Counted x = w.x;
        int[] none = {w.z, w.n, w.prop, w.nn, w.app(w.s, w.z)};
        for (int f : none) dueReason("f is term " + f, w, w.app(f, w.z), 2);
        due("a NAME", x.type(w.app(w.s, w.z)), w.n);
        due("a LAMBDA", x.type(w.app(w.fn(w.n, w.prop), w.z)), w.set);
        int fn = w.define(0, x.type(w.nn), w.nn), g = w.axiom(0, fn);
        due("by a step", x.type(w.app(g, w.z)), w.n);
        dueReason("one argument too many", w, w.app(w.s, w.z, w.z), 2);
    }

    // Promise 10: "APPLY f a: .. B WITH a", where VARIABLE 0 is below binders of B, and a has variables.
    private static void applyBelowBinders() {
        World w = new World();
        Counted x = w.x;
        int id = w.fn(w.set, w.fn(w.v0, w.v0)), v3 = x.variable(3);
        due("a LAMBDA in a LAMBDA", x.type(w.app(id, w.n)), w.nn);
        due("two binders below", x.type(w.app(w.fn(w.set, w.fn(w.v0, w.fn(w.v1, w.v1))), w.n)), w.pi(w.n, w.pi(w.n, w.n)));
        due("a with a variable", x.type(w.fn(w.set, w.app(id, w.v0))), w.pi(w.set, w.pi(w.v0, w.v1)));
        due("a with a variable, two binders below", x.type(w.fn(w.set, w.app(w.fn(w.set, w.fn(w.v0, w.fn(w.v1, w.v1))), w.v0))),
            w.pi(w.set, w.pi(w.v0, w.pi(w.v1, w.v2))));
        due("B with a variable farther out", x.type(w.fn(w.set, w.fn(w.v0, w.app(w.fn(w.n, w.fn(w.v2, w.v0)), w.z)))),
            w.pi(w.set, w.pi(w.v0, w.pi(w.v1, w.v2))));
        due("a LET's T below binders", x.type(w.fn(w.set, x.let(w.set, w.v0, w.fn(w.v0, w.fn(w.v1, w.v1))))),
            w.pi(w.set, w.pi(w.v0, w.pi(w.v1, w.v2))));
        due("T with a variable farther out", x.type(w.fn(w.set, w.fn(w.set, x.let(w.n, w.z, w.fn(w.v1, w.fn(v3, w.v0)))))),
            w.pi(w.set, w.pi(w.set, w.pi(w.v0, w.pi(w.v2, v3)))));
    }

    // Promise 10: "a is typed, and the normal form of its type is the SAME as A (3: another one): B WITH a."
    private static void applyWrongArgument() {
        World w = new World();
        Counted x = w.x;
        int[] other = {w.s, w.n, w.prop, w.nn};
        for (int a : other) dueReason("a is term " + a, w, w.app(w.s, a), 3);
        int byStep = w.axiom(0, x.let(w.set, w.n, w.v0));
        due("by a step", x.type(w.app(w.s, byStep)), w.n);
        int pq = w.max(w.p0, w.p1), qp = w.max(w.p1, w.p0), ipq = w.imax(w.p0, w.p1);
        int takes = w.axiom(2, w.pi(x.sort(w.up(pq, 1)), w.n)), c = x.part(takes, 1);
        int f = x.name(c, w.p0, w.p1);
        due("a level that is the SAME", x.type(w.app(f, x.sort(qp))), w.n);
        dueReason("a level that is another where a parameter is 0", w, w.app(f, x.sort(ipq)), 3);
        dueReason("a level that is less", w, w.app(f, w.sortP), 3);
        dueReason("a level that is more", w, w.app(f, x.sort(w.up(pq, 1))), 3);
    }

    // Promise 10: "APPLY f a: .. B WITH a"; "5: .. a type that comes about has a size above 200".
    private static void applySizes() {
        Sizes s = new Sizes();
        World w = s.w;
        int odd = w.ofSize(49), even = s.even(50);
        int b53 = s.withThree(53), b55 = s.withThree(55), b57 = s.withThree(57);
        dueSize("B", w, w.app(b53, w.z), 53);
        dueSize("B WITH a of size 199", w, w.app(b55, odd), 199);
        dueSize("B WITH a of size 200", w, w.app(b53, even), 200);
        dueReason("B WITH a of size 201", w, w.app(b57, odd), 5);
        dueReason("B WITH a of size 202", w, w.app(b55, even), 5);
    }

    // Promise 10: "v is typed, and the normal forms of its type and of A are the SAME (6: not so)".
    private static void letWrongValue() {
        World w = new World();
        Counted x = w.x;
        int[] other = {w.s, w.n, w.prop, w.nn};
        for (int v : other) dueReason("v is term " + v, w, x.let(w.n, v, w.z), 6);
        int byStep = x.let(w.set, w.n, w.v0), of = w.axiom(0, byStep);
        due("v's type by a step", x.type(x.let(w.n, of, w.v0)), w.n);
        due("A by a step", x.type(x.let(byStep, w.z, w.v0)), byStep);
        due("both by a step", x.type(x.let(byStep, of, w.v0)), byStep);
        int pq = w.max(w.p0, w.p1), qp = w.max(w.p1, w.p0), ipq = w.imax(w.p0, w.p1), a = x.sort(w.up(pq, 1));
        due("a level that is the SAME", x.type(x.let(a, x.sort(qp), w.z)), w.n);
        dueReason("a level that is another where a parameter is 0", w, x.let(a, x.sort(ipq), w.z), 6);
        dueReason("a level that is less", w, x.let(a, w.sortP, w.z), 6);
        dueReason("the value is not known below", w, x.let(w.set, w.n, w.app(w.s, w.fn(w.v0, w.v0))), 3);
        dueReason("the value is not known below, of N", w, x.let(w.set, w.n, w.fn(w.v0, w.app(w.s, w.v0))), 3);
    }

    // Promise 10: "LET A v b: .. T WITH v"; "5: .. a type that comes about has a size above 200".
    private static void letSizes() {
        Sizes s = new Sizes();
        World w = s.w;
        int odd = w.ofSize(49), even = s.even(50);
        int b53 = w.app(s.withThree(53), w.v0), b55 = w.app(s.withThree(55), w.v0), b57 = w.app(s.withThree(57), w.v0);
        dueSize("T WITH v of size 199", w, w.x.let(w.n, odd, b55), 199);
        dueSize("T WITH v of size 200", w, w.x.let(w.n, even, b53), 200);
        dueReason("T WITH v of size 201", w, w.x.let(w.n, odd, b57), 5);
        dueReason("T WITH v of size 202", w, w.x.let(w.n, even, b55), 5);
        due("T without it", w.x.type(w.x.let(w.n, odd, w.z)), w.n);
    }

    // Promise 10: "5: .. a type that comes about has a size above 200", though the type of the whole term is small.
    private static void tooLargeWithin() {
        Sizes s = new Sizes();
        World w = s.w;
        Counted x = w.x;
        int odd = w.ofSize(49), fits = w.app(s.withThree(55), odd), over = w.app(s.withThree(57), odd);
        dueReason("an argument's type of size 199", w, w.app(w.s, fits), 3);
        dueReason("an argument's type of size 201", w, w.app(w.s, over), 5);
        dueReason("a type of size 201 below a LET", w, x.let(w.n, w.z, over), 5);
        dueReason("a type of size 201 below a LAMBDA", w, w.fn(w.n, over), 5);
        dueReason("a value's type of size 199", w, x.let(w.n, fits, w.z), 6);
        dueReason("a value's type of size 201", w, x.let(w.n, over, w.z), 5);
        dueReason("a function's type of size 201", w, w.app(over, w.z), 5);
        dueReason("a function's type of size 199", w, w.app(fits, w.z), 2);
        dueReason("A's type of size 201", w, w.pi(over, w.n), 5);
        dueReason("A's type of size 199", w, w.pi(fits, w.n), 4);
        int b53 = x.part(x.declared(x.part(s.withThree(53), 1), 1), 2), b55 = x.part(x.declared(x.part(s.withThree(55), 1), 1), 2);
        int use53 = w.axiom(0, w.pi(w.n, w.pi(b53, w.n))), use55 = w.axiom(0, w.pi(w.n, w.pi(b55, w.n)));
        int step = w.app(use53, odd), proof = w.axiom(0, x.part(x.type(step), 1));
        due("B WITH a of size 199 has a small B", x.type(w.app(step, proof)), w.n);
        dueReason("B WITH a of size 201 has a small B", w, w.app(w.app(use55, odd), proof), 5);
    }

    // Promise 10: "5: .. or a level in it one above 16", though the type of the whole term has none.
    private static void levelTooLargeWithin() {
        World w = new World();
        Counted x = w.x;
        int seven = w.up(0, 6), six = w.up(0, 5), over = w.pi(x.sort(seven), x.sort(seven)), fits = w.pi(x.sort(six), x.sort(seven));
        dueReason("over", w, over, 5);
        dueReason("below a LAMBDA", w, w.fn(w.n, over), 5);
        dueReason("A of a LAMBDA", w, w.fn(over, w.z), 5);
        dueReason("an argument", w, w.app(w.s, over), 5);
        dueReason("an argument that fits", w, w.app(w.s, fits), 3);
        dueReason("a function", w, w.app(over, w.z), 5);
        dueReason("a function that fits", w, w.app(fits, w.z), 2);
        dueReason("A of a LET", w, x.let(over, w.z, w.z), 5);
        dueReason("v of a LET", w, x.let(w.n, over, w.z), 5);
        dueReason("v of a LET that fits", w, x.let(w.n, fits, w.z), 6);
        due("A of a LAMBDA that fits", x.type(w.fn(fits, w.z)), w.pi(fits, w.n));
    }

    // Promise 10: "5: a normal form that is needed is OUT": for A and B of a PI, A of a LAMBDA, A of a LET.
    private static void neededForSort() {
        World w = new World();
        Counted x = w.x;
        Far f = new Far(w, x.type(w.set), w.set);
        int level = w.imax(w.one, w.one);
        due("A of a PI, 30 steps", x.type(w.pi(f.of30, w.n)), x.sort(level));
        dueReason("A of a PI, 31 steps", w, w.pi(f.of31, w.n), 5);
        due("B of a PI, 30 steps", x.type(w.pi(w.n, f.of30)), x.sort(level));
        dueReason("B of a PI, 31 steps", w, w.pi(w.n, f.of31), 5);
        due("A of a LAMBDA, 30 steps", x.type(w.fn(f.of30, w.z)), w.pi(f.of30, w.n));
        dueReason("A of a LAMBDA, 31 steps", w, w.fn(f.of31, w.z), 5);
        dueReason("A of a LET, 30 steps", w, x.let(f.of30, w.z, w.z), 6);
        dueReason("A of a LET, 31 steps", w, x.let(f.of31, w.z, w.z), 5);
        dueReason("31 steps, before B is met", w, w.pi(f.of31, w.v1), 5);
        dueReason("31 steps, before v is met", w, x.let(f.of31, w.v0, w.z), 5);
        World y = new World();
        Far no = new Far(y, y.set, y.n);
        dueReason("no SORT by 30 steps", y, y.pi(no.of30, y.n), 4);
        dueReason("no SORT by 31 steps", y, y.pi(no.of31, y.n), 5);
    }

    // Promise 10: "5: a normal form that is needed is OUT": for f of an APPLY.
    private static void neededForFunction() {
        World w = new World();
        Far f = new Far(w, w.x.type(w.nn), w.nn);
        due("30 steps", w.x.type(w.app(f.of30, w.z)), w.n);
        dueReason("31 steps", w, w.app(f.of31, w.z), 5);
        dueReason("31 steps, before a is met", w, w.app(f.of31, w.v0), 5);
        dueReason("30 steps, and then a is met", w, w.app(f.of30, w.v0), 1);
        World y = new World();
        Far no = new Far(y, y.set, y.n);
        dueReason("no function by 30 steps", y, y.app(no.of30, y.z), 2);
        dueReason("no function by 31 steps", y, y.app(no.of31, y.z), 5);
    }

    // Promise 10: "5: a normal form that is needed is OUT": for a of an APPLY.
    private static void neededForArgument() {
        World w = new World();
        Far f = new Far(w, w.set, w.n);
        due("30 steps", w.x.type(w.app(w.s, f.of30)), w.n);
        dueReason("31 steps", w, w.app(w.s, f.of31), 5);
        int to30 = w.axiom(0, w.pi(f.at30, w.n));
        due("A by 30 steps", w.x.type(w.app(to30, w.z)), w.n);
        int to31 = w.axiom(0, w.pi(f.at31, w.n));
        dueReason("A by 31 steps, which f's type needs", w, w.app(to31, w.z), 5);
    }

    // Promise 10: "5: a normal form that is needed is OUT": for v of a LET, and for its A.
    private static void neededForLet() {
        World w = new World();
        Far f = new Far(w, w.set, w.n);
        due("v's type, 30 steps", w.x.type(w.x.let(w.n, f.of30, w.v0)), w.n);
        dueReason("v's type, 31 steps", w, w.x.let(w.n, f.of31, w.v0), 5);
        due("A, 30 steps", w.x.type(w.x.let(f.at30, w.z, w.v0)), f.at30);
        dueReason("A, 31 steps", w, w.x.let(f.at31, w.z, w.v0), 5);
        dueReason("both, 31 steps", w, w.x.let(f.at31, f.of31, w.v0), 5);
        dueReason("A, 31 steps, behind v", w, w.x.let(f.at31, w.v0, w.v0), 1);
        dueReason("A, 31 steps, though v is wrong", w, w.x.let(f.at31, w.s, w.v0), 5);
    }

    // Promise 10: "5: a normal form that is needed is OUT", by a size above 200 or a level above 16.
    private static void outBySizeOrLevel() {
        Sizes s = new Sizes();
        World w = s.w;
        Counted x = w.x;
        int big = w.ofSize(49);
        for (int k = 0; k < 2; k++) big = x.normal(w.times(w.s, 24, w.define(0, w.n, big)));
        due("size", x.part(big, 4), 145);
        int c = w.define(0, w.n, big);
        int max = w.max(w.p0, w.p1), seven = w.up(0, 6), eight = w.up(0, 7);
        int d = x.declare(2, w.n, x.let(x.sort(w.up(max, 1)), x.sort(max), w.z));
        int once = w.app(s.pred, c, w.z), twice = w.app(s.pred, c, c);
        int fits = w.app(s.pred, x.name(d, seven, x.levelPart(seven, 1)), w.z), over = w.app(s.pred, x.name(d, eight, eight), w.z);
        int f = w.axiom(0, w.pi(w.n, w.n));
        dueReason("a type of size 149 by steps", w, w.app(f, w.axiom(0, once)), 3);
        dueReason("a type of size 293 by steps", w, w.app(f, w.axiom(0, twice)), 5);
        dueReason("a type with a level of size 15 by steps", w, w.app(f, w.axiom(0, fits)), 3);
        dueReason("a type with a level of size 18 by steps", w, w.app(f, w.axiom(0, over)), 5);
        due("the term itself", x.type(x.name(d, eight, eight)), w.n);
    }

    // Promise 10: "5: a normal form that is needed is OUT": what is not needed is not looked at.
    private static void notNeeded() {
        World w = new World();
        Counted x = w.x;
        Far f = new Far(w, w.set, w.n);
        due("a NAME of a type that is OUT", x.type(f.of31), f.at31);
        due("a NAME that is OUT", x.type(f.at31), w.set);
        due("A that is OUT", x.type(w.fn(f.at31, w.z)), w.pi(f.at31, w.n));
        due("T that is OUT", x.type(w.fn(w.n, f.of31)), w.pi(w.n, f.at31));
        due("a PI of what is OUT", x.type(w.pi(f.at31, f.at31)), x.sort(w.imax(w.one, w.one)));
        due("T of a LET that is OUT", x.type(x.let(w.n, w.z, f.of31)), f.at31);
        int c = w.define(0, w.n, w.z);
        int pred = w.axiom(0, w.pi(w.n, w.prop)), all = w.axiom(0, w.pi(w.n, w.app(pred, w.v0)));
        due("a in B is as it was", x.type(w.app(all, c)), w.app(pred, c));
    }

    /** A term for each reason from 1 to 6. */
    private static int[] failing(World w) {
        int seven = w.up(0, 6);
        return new int[] {w.v2, w.app(w.z, w.z), w.app(w.s, w.s), w.fn(w.z, w.z), w.pi(w.x.sort(seven), w.x.sort(seven)),
            w.x.let(w.n, w.s, w.z)};
    }

    // Promise 10: "each failing one has a REASON, the first one that is met in this order".
    private static void firstReasonOfTwo() {
        for (int i = 0; i < 6; i++) {
            World w = new World();
            Counted x = w.x;
            int[] bad = failing(w);
            int reason = i + 1, first = bad[i];
            dueReason("alone", w, first, reason);
            for (int then : bad) {
                due("f before a", x.type(w.app(first, then)), NONE - reason);
                due("A before B", x.type(w.pi(first, then)), NONE - reason);
                due("A before b", x.type(w.fn(first, then)), NONE - reason);
                due("A before v", x.type(x.let(first, then, w.z)), NONE - reason);
                due("A before b in a LET", x.type(x.let(first, w.z, then)), NONE - reason);
                due("v before b", x.type(x.let(w.n, first, then)), NONE - reason);
            }
            due("a alone", x.type(w.app(w.s, first)), NONE - reason);
            due("B alone", x.type(w.pi(w.n, first)), NONE - reason);
            due("b alone", x.type(w.fn(w.n, first)), NONE - reason);
            due("b of a LET alone", x.type(x.let(w.n, w.z, first)), NONE - reason);
        }
    }

    // Promise 10: "the first one that is met in this order": a part's own condition comes before the next part.
    private static void reasonBeforeTheNextPart() {
        World w = new World();
        Counted x = w.x;
        for (int then : failing(w)) {
            due("no function, before a", x.type(w.app(w.z, then)), -3);
            due("no SORT, before B", x.type(w.pi(w.z, then)), -5);
            due("no SORT, before b", x.type(w.fn(w.z, then)), -5);
            due("no SORT, before v", x.type(x.let(w.z, then, w.z)), -5);
            due("a wrong value, before b", x.type(x.let(w.n, w.s, then)), -7);
        }
        due("a's own reason before it is wrong", x.type(w.app(w.s, w.fn(w.z, w.z))), -5);
        due("v's own reason before it is wrong", x.type(x.let(w.n, w.fn(w.z, w.z), w.z)), -5);
    }

    // Promise 10: "below A": each binder has its own type, and a binder within A or v is gone behind it.
    private static void bindersBelowEachOther() {
        World w = new World();
        Counted x = w.x;
        int inner = w.pi(w.set, w.v0);
        int level = x.part(x.type(inner), 1);
        due("a binder in A", x.type(w.fn(inner, w.v0)), w.pi(inner, inner));
        levelParts(x, x.part(x.type(w.pi(inner, w.set)), 1), IMAX, level, w.up(0, 2));
        int id = w.fn(w.set, w.v0);
        due("a binder in v", x.type(x.let(w.pi(w.set, w.set), id, w.app(w.v0, w.n))), w.set);
        due("a binder in f", x.type(w.fn(w.n, w.app(w.fn(w.n, w.v0), w.v0))), w.nn);
        due("a binder in a", x.type(w.fn(w.n, w.app(w.fn(w.nn, w.v1), w.fn(w.n, w.v0)))), w.nn);
        due("binders of other types", x.type(w.fn(w.n, w.fn(w.nn, w.app(w.v0, w.v1)))), w.pi(w.n, w.pi(w.nn, w.n)));
        dueReason("changed about", w, w.fn(w.nn, w.fn(w.n, w.app(w.v0, w.v1))), 2);
    }

    /** So many LAMBDAs around a term. */
    private static int under(World w, int a, int count, int term) {
        int t = term;
        for (int k = 0; k < count; k++) t = w.fn(a, t);
        return t;
    }

    // Promises 10 and 11: the deepest terms that may come about, of a size of 199; and the farthest binder of a VARIABLE.
    private static void deepest() {
        World w = new World();
        Counted x = w.x;
        int p = w.axiom(0, w.prop), q = w.axiom(0, p), type7 = p;
        for (int k = 0; k < 7; k++) type7 = w.pi(p, type7);
        // A step of this puts six LAMBDAs around its argument.
        int more = w.define(0, type7, w.fn(p, under(w, p, 6, x.variable(6))));
        int two = w.define(0, w.pi(p, w.pi(p, p)), under(w, p, 2, q));
        int far = x.normal(under(w, p, 4, w.times(more, 15, under(w, p, 3, x.variable(6)))));
        due("97 LAMBDAs one in another", x.part(far, 4), 195);
        due("they are closed", x.part(far, 5), 0);
        due("their type's size", x.part(x.type(far), 4), 195);
        int deep = x.normal(under(w, p, 6, w.times(more, 14, under(w, p, 7, two))));
        due("99 LAMBDAs one in another", x.part(deep, 4), 199);
        int type = x.type(deep);
        due("their type's size", x.part(type, 4), 199);
        due("its kind", x.part(type, 0), PI);
        dueReason("99 PIs one in another", w, type, 5);
        unchanged("a normal form of 99 LAMBDAs", x, deep, () -> x.normal(deep));
        int inner = far;
        for (int k = 0; k < 97; k++) inner = x.part(inner, 2);
        parts(x, inner, VARIABLE, 96);
    }

    // Promise 10: "get numbers 0, 1, .. as they come, with all their parts, which come before them": A, v and b of a LET in a type.
    private static void numbersOfATypeWithLet() {
        World w = new World();
        Counted x = w.x;
        int pred = w.axiom(0, w.pi(w.n, w.pi(w.n, w.prop)));
        int all = w.axiom(0, w.pi(w.n, w.pi(w.n, w.app(pred, w.v1, w.v0))));
        int id = w.fn(w.n, w.v0), v = w.app(id, w.v0), b = w.app(w.s, w.app(w.s, w.v1));
        int let = x.let(w.n, v, b), t = w.fn(w.n, w.app(all, let));
        int first = x.told(1);
        int type = x.type(t);
        int idv1 = first, sv2 = first + 1, ssv2 = first + 2;
        parts(x, idv1, APPLY, id, w.v1, NONE, 5, 2);
        parts(x, sv2, APPLY, w.s, w.v2, NONE, 3, 3);
        parts(x, ssv2, APPLY, w.s, sv2, NONE, 5, 3);
        parts(x, first + 3, LET, w.n, idv1, ssv2);
        parts(x, first + 4, APPLY, pred, first + 3);
        parts(x, first + 5, APPLY, first + 4, w.v0);
        parts(x, first + 6, PI, w.n, first + 5);
        parts(x, first + 7, PI, w.n, first + 6);
        due("the type's own number is the last", type, first + 7);
        due("terms", x.told(1), first + 8);
        unchanged("again", x, type, () -> x.type(t));
    }
}
