/** The boundary cases of steps and normal forms: promises 11, 12 and 13. A remark at each test names its promise and its sentence. */
public final class NormalBoundaryTest extends Bench {
    public static void main(String[] args) {
        noSuchTerm();
        noStep();
        eachStep();
        nameWithItsLevels();
        withValue();
        behindAStep();
        openAndUntyped();
        termBeforeItsParts();
        partsInTheirOrder();
        shrinking();
        noShrinking();
        shrinkingFromWithin();
        thirtyStepsByName();
        thirtyStepsByLet();
        thirtyStepsByApply();
        noEnd();
        sizeBehindTheLastStep();
        sizeBetweenSteps();
        sizeOfTheWholeTerm();
        sizeByName();
        sizeBeforeShrinking();
        levelBehindAStep();
        levelBetweenSteps();
        sameOrNot();
        sameLevels();
        sameIsOut();
        numbersOnlyForNormal();
        finish();
    }

    /** Some term that has a normal form, and how many steps it takes to that. */
    private static void dueNormal(String what, World w, int term, int want, int steps) {
        due(what + ", steps", w.x.steps(term), steps);
        due(what, w.x.normal(term), want);
    }

    /** It is OUT, and no part of it gets a number. */
    private static void dueOut(String what, World w, int term) {
        unchanged(what + ", steps", w.x, OUT, () -> w.x.steps(term));
        unchanged(what, w.x, OUT, () -> w.x.normal(term));
        unchanged(what + ", same", w.x, OUT, () -> w.x.same(term, term));
    }

    // Promises 11, 12, 13 and "IndexOutOfBounds: there is no such .. term".
    private static void noSuchTerm() {
        Counted x = new Counted();
        refused("normal(0), where there is none", x, INDEX, () -> x.normal(0));
        refused("steps(0), where there is none", x, INDEX, () -> x.steps(0));
        refused("same(0, 0), where there is none", x, INDEX, () -> x.same(0, 0));
        x.sort(0);
        x.variable(0);
        for (int t : new int[] {LEAST, -6, -1, 2, 1500, GREATEST}) {
            refused("normal(" + t + ")", x, INDEX, () -> x.normal(t));
            refused("steps(" + t + ")", x, INDEX, () -> x.steps(t));
            refused("same(" + t + ", 0)", x, INDEX, () -> x.same(t, 0));
            refused("same(0, " + t + ")", x, INDEX, () -> x.same(0, t));
        }
        unchanged("normal of the last", x, 1, () -> x.normal(1));
        unchanged("steps of the last", x, 0, () -> x.steps(1));
        unchanged("same of the last", x, 0, () -> x.same(0, 1));
    }

    // Promise 12: "How many steps that takes": none, where there is "a step left" nowhere.
    private static void noStep() {
        World w = new World();
        int[] all = {w.prop, w.sortP, w.v0, w.x.variable(59), w.n, w.s, w.nn, w.fn(w.n, w.v0), w.app(w.s, w.z),
            w.app(w.s, w.fn(w.n, w.v0)), w.app(w.pi(w.n, w.v0), w.z), w.app(w.v0, w.fn(w.n, w.v0)),
            w.pi(w.fn(w.n, w.z), w.z), w.app(w.app(w.v0, w.fn(w.n, w.v0)), w.z)};
        for (int t : all) {
            unchanged("steps of term " + t, w.x, 0, () -> w.x.steps(t));
            unchanged("normal of term " + t, w.x, t, () -> w.x.normal(t));
        }
    }

    // Promises 11, 12: "APPLY (LAMBDA A b) v becomes b WITH v; LET A v b becomes b WITH v; a NAME that has a value becomes that".
    private static void eachStep() {
        World w = new World();
        dueNormal("APPLY of a LAMBDA", w, w.app(w.fn(w.n, w.v0), w.z), w.z, 1);
        dueNormal("LET", w, w.x.let(w.n, w.z, w.v0), w.z, 1);
        dueNormal("a NAME with a value", w, w.define(0, w.n, w.z), w.z, 1);
        dueNormal("a NAME without", w, w.axiom(0, w.n), w.x.told(1) - 1, 0);
        World first = new World();
        first.x.clear();
        int set = first.x.sort(first.x.level(UP, 0, 0)), prop = first.x.sort(0);
        dueNormal("the first NAME, whose value is term 1", first, first.define(0, set, prop), prop, 1);
        first.x.clear();
        int prop0 = first.x.sort(0), set1 = first.x.sort(first.x.level(UP, 0, 0));
        dueNormal("the first NAME, whose value is term 0", first, first.define(0, set1, prop0), prop0, 1);
    }

    // Promise 11: "a NAME that has a value becomes that, with its levels for parameters 0 and 1".
    private static void nameWithItsLevels() {
        World w = new World();
        Counted x = w.x;
        int p2 = x.level(PARAMETER, 2, 0), up1 = w.up(w.p1, 1);
        int value = w.pi(w.sortP, x.sort(up1));
        int c = x.declare(2, x.type(value), value);
        dueNormal("levels that are parameters, both at once", w, x.name(c, w.p1, w.p0),
            w.pi(x.sort(w.p1), x.sort(w.up(w.p0, 1))), 1);
        dueNormal("its own parameters", w, x.name(c, w.p0, w.p1), value, 1);
        dueNormal("PARAMETER 2", w, x.name(c, p2, 0), w.pi(x.sort(p2), w.set), 1);
        int inName = x.name(c, w.p1, w.max(w.p0, w.p1));
        int d = x.declare(2, x.type(inName), inName);
        int two = w.up(0, 2);
        dueNormal("the levels of a NAME in the value", w, x.name(d, w.one, two),
            w.pi(x.sort(two), x.sort(w.up(w.max(w.one, two), 1))), 2);
        int none = x.declare(0, w.n, w.z);
        dueNormal("a NAME of no parameters", w, x.name(none, w.p1, p2), w.z, 1);
        int far = x.sort(w.up(w.p0, 7));
        for (int k = 0; k < 6; k++) far = x.type(far);
        int e = x.declare(1, x.type(far), far), made = x.normal(x.name(e, w.p1, 0));
        int l = x.part(made, 1);
        for (int k = 0; k < 13; k++) l = x.levelPart(l, 1);
        due("a parameter as the last mark of a level of size 14", l, w.p1);
        due("a level of size 3 for that", x.steps(x.name(e, two, 0)), 1);
        due("a level of size 4 for that", x.steps(x.name(e, w.up(two, 1), 0)), OUT);
    }

    // Promise 11: "b WITH v: in b variable 0 is v (with the binders around it counted), and those farther out are one less."
    private static void withValue() {
        World w = new World();
        Counted x = w.x;
        int n = w.n, v3 = x.variable(3), v59 = x.variable(59), v58 = x.variable(58);
        dueNormal("VARIABLE 0 alone", w, x.let(n, v59, w.v0), v59, 1);
        dueNormal("VARIABLE 1 becomes 0", w, x.let(n, w.z, w.v1), w.v0, 1);
        dueNormal("VARIABLE 59 becomes 58", w, x.let(n, w.z, v59), v58, 1);
        dueNormal("a bound VARIABLE stays", w, x.let(n, w.z, w.fn(n, w.v0)), w.fn(n, w.v0), 1);
        dueNormal("VARIABLE 1 below a binder is v", w, x.let(n, w.z, w.fn(n, w.v1)), w.fn(n, w.z), 1);
        dueNormal("VARIABLE 2 below a binder becomes 1", w, x.let(n, w.z, w.fn(n, w.v2)), w.fn(n, w.v1), 1);
        dueNormal("v below a LAMBDA", w, x.let(n, w.v0, w.fn(n, w.v1)), w.fn(n, w.v1), 1);
        dueNormal("v below a PI", w, x.let(n, w.v0, w.pi(w.v0, w.v1)), w.pi(w.v0, w.v1), 1);
        dueNormal("v below two binders", w, x.let(n, w.v1, w.pi(n, w.pi(n, w.v2))), w.pi(n, w.pi(n, v3)), 1);
        dueNormal("v with a binder of its own", w, x.let(n, w.fn(n, w.app(w.v0, w.v1)), w.pi(n, w.v1)),
            w.pi(n, w.fn(n, w.app(w.v0, w.v2))), 1);
        dueNormal("v in a LET below", w, x.let(n, w.v0, x.let(w.v0, w.v0, w.app(w.v0, w.v1))), w.app(w.v0, w.v0), 2);
        dueNormal("v in A, which is not below", w, w.app(w.fn(n, w.fn(w.v0, w.v1)), w.z), w.fn(w.z, w.z), 1);
        dueNormal("b without it", w, w.app(w.fn(n, w.s), w.z), w.s, 1);
        dueNormal("an APPLY below a binder", w, w.pi(n, w.app(w.fn(n, w.app(w.v0, w.v1)), w.v0)),
            w.pi(n, w.app(w.v0, w.v0)), 1);
        int far = x.normal(x.let(n, v59, w.fn(n, w.fn(n, w.v2))));
        due("VARIABLE 59 below two binders", x.part(x.part(x.part(far, 2), 2), 1), 61);
        int own = w.pi(n, w.v0);
        dueNormal("v with a binder of its own, in a LET below", w, x.let(n, own, x.let(n, w.z, w.app(w.s, w.app(w.v1, w.v0)))),
            w.app(w.s, w.app(own, w.z)), 2);
        dueNormal("a binder of b, in a LET below", w, x.let(n, w.v0, x.let(n, w.v0, w.pi(w.v1, w.app(w.v2, w.v1)))),
            w.pi(w.v0, w.app(w.v1, w.v1)), 2);
        dueNormal("a LET below a binder, and another in it", w, w.pi(n, x.let(n, w.v0, x.let(n, w.v1, w.pi(w.v0, w.app(w.v1, w.v2))))),
            w.pi(n, w.pi(w.v0, w.app(w.v1, w.v1))), 2);
        dueNormal("a step in the body of a step", w, w.app(w.fn(n, w.app(w.fn(n, w.pi(w.v0, w.app(w.v1, w.v2))), w.v1)), w.s),
            w.pi(w.v0, w.app(w.v1, w.s)), 2);
    }

    // Promise 11: a step changes the term that it is of, and what stands behind that stays as it is.
    private static void behindAStep() {
        World w = new World();
        Counted x = w.x;
        int small = x.let(w.n, w.z, w.v0), large = x.let(w.n, w.ofSize(9), w.v0), name = x.name(0, w.p0, w.p1);
        for (int kind = PI; kind <= APPLY; kind++) {
            dueNormal("a SORT, kind " + kind, w, x.term(kind, small, w.sortP), x.term(kind, w.z, w.sortP), 1);
            dueNormal("a NAME with two levels, kind " + kind, w, x.term(kind, small, name), x.term(kind, w.z, name), 1);
            dueNormal("a SORT behind a larger one, kind " + kind, w, x.term(kind, large, w.sortP), x.term(kind, w.ofSize(9), w.sortP), 1);
        }
        int c = w.define(0, w.n, w.ofSize(5));
        int tail = w.pi(w.v1, w.app(w.pi(w.v0, w.v1), name));
        dueNormal("a tail that moves on", w, w.app(c, tail), w.app(w.ofSize(5), tail), 1);
        dueNormal("a tail that moves back", w, w.app(x.let(w.n, w.ofSize(5), w.z), tail), w.app(w.z, tail), 1);
        dueNormal("a tail that moves, and a step in it", w, w.pi(c, w.pi(w.n, x.let(w.n, w.v1, w.pi(w.v1, w.app(w.v1, w.v2))))),
            w.pi(w.ofSize(5), w.pi(w.n, w.pi(w.v0, w.app(w.v2, w.v1)))), 2);
    }

    // Promise 11: "The normal form of a term (closed or not, with a type or not)".
    private static void openAndUntyped() {
        World w = new World();
        int self = w.app(w.fn(w.z, w.app(w.v0, w.v0)), w.v2);
        due("it has no type", w.x.type(self), -5);
        dueNormal("not closed, no type", w, self, w.app(w.v2, w.v2), 1);
        int strange = w.x.let(w.z, w.prop, w.app(w.v0, w.v1));
        due("it has no type either", w.x.type(strange), -5);
        dueNormal("a LET that is wrong", w, strange, w.app(w.prop, w.v0), 1);
    }

    // Promises 11, 12: "The next step is that of the term itself, if it is one of these".
    private static void termBeforeItsParts() {
        World w = new World();
        Counted x = w.x;
        int omega = w.fn(w.n, w.app(w.v0, w.v0)), out = w.app(omega, omega);
        dueNormal("APPLY before its argument", w, w.app(w.fn(w.n, w.z), out), w.z, 1);
        dueNormal("APPLY before its LAMBDA's type", w, w.app(w.fn(out, w.v0), w.z), w.z, 1);
        dueNormal("LET before its type", w, x.let(out, w.z, w.v0), w.z, 1);
        dueNormal("LET before its value", w, x.let(w.n, out, w.z), w.z, 1);
        dueNormal("LET's value is not met before it is copied", w, x.let(w.n, x.let(w.n, w.z, w.v0), w.app(w.v0, w.v0)),
            w.app(w.z, w.z), 3);
        dueNormal("f's step makes the APPLY one", w, w.app(x.let(w.n, w.z, w.fn(w.n, w.z)), out), w.z, 2);
        dueNormal("f's APPLY makes the APPLY one", w, w.app(w.app(w.fn(w.n, w.fn(w.n, w.v1)), w.z), out), w.z, 2);
        int k = w.define(0, w.pi(w.n, w.nn), w.fn(w.n, w.fn(w.n, w.v1)));
        dueNormal("f's NAME makes the APPLY one", w, w.app(k, w.z, out), w.z, 3);
        dueOut("A step that is met in a PI", w, w.pi(out, w.z));
        dueOut("A step that is met below a PI", w, w.pi(w.z, out));
        dueOut("A step that is met in a LAMBDA", w, w.fn(out, w.z));
        dueOut("A step that is met below a LAMBDA", w, w.fn(w.z, out));
        dueOut("A step that is met in f", w, w.app(out, w.z));
        dueOut("A step that is met in a", w, w.app(w.z, out));
    }

    // Promises 11, 12: "else the first one in its parts, in the order in which they are told above (A before B, b ..; f before a)".
    private static void partsInTheirOrder() {
        for (int kind = PI; kind <= APPLY; kind++) {
            World w = new World();
            Counted x = w.x;
            int large = x.let(w.n, w.ofSize(17), w.copies(10));
            int passing = x.let(w.n, w.ofSize(5), x.let(w.n, w.copies(4), w.z));
            due("steps of the one", x.steps(large), 1);
            due("steps of the other", x.steps(passing), 2);
            due("size of the one behind them", x.part(x.normal(large), 4), 179);
            due("the passing one before, kind " + kind, x.steps(x.term(kind, passing, large)), 3);
            int over = x.term(kind, large, passing);
            dueOut("the large one before, kind " + kind, w, over);
        }
    }

    // Promise 11: "in which then each LAMBDA A (APPLY f (VARIABLE 0)), where f has not this variable, is f (with variables one less)".
    private static void shrinking() {
        World w = new World();
        int n = w.n, x59 = w.x.variable(59), x58 = w.x.variable(58);
        dueNormal("LAMBDA (s 0)", w, w.fn(n, w.app(w.s, w.v0)), w.s, 0);
        dueNormal("VARIABLE 1 becomes 0", w, w.fn(n, w.app(w.v1, w.v0)), w.v0, 0);
        dueNormal("VARIABLE 59 becomes 58", w, w.fn(n, w.app(x59, w.v0)), x58, 0);
        dueNormal("whatever A is", w, w.fn(w.app(w.z, w.v0), w.app(w.s, w.v0)), w.s, 0);
        dueNormal("f with a binder of its own", w, w.fn(n, w.app(w.pi(n, w.app(w.v0, w.v2)), w.v0)), w.pi(n, w.app(w.v0, w.v1)), 0);
        dueNormal("in A of a LAMBDA", w, w.fn(w.fn(n, w.app(w.s, w.v0)), w.z), w.fn(w.s, w.z), 0);
        dueNormal("in b of a LAMBDA", w, w.fn(n, w.fn(n, w.app(w.v1, w.v0))), w.fn(n, w.v0), 0);
        dueNormal("in A of a PI", w, w.pi(w.fn(n, w.app(w.s, w.v0)), w.z), w.pi(w.s, w.z), 0);
        dueNormal("in B of a PI", w, w.pi(n, w.fn(n, w.app(w.v1, w.v0))), w.pi(n, w.v0), 0);
        dueNormal("in an argument", w, w.app(w.s, w.fn(n, w.app(w.s, w.v0))), w.app(w.s, w.s), 0);
        dueNormal("in both parts", w, w.pi(w.fn(n, w.app(w.s, w.v0)), w.fn(n, w.app(w.v1, w.v0))), w.pi(w.s, w.v0), 0);
        dueNormal("behind a step", w, w.x.let(n, w.s, w.fn(n, w.app(w.v1, w.v0))), w.s, 1);
    }

    // Promise 11: "where f has not this variable"; and it is a LAMBDA, an APPLY and a VARIABLE 0.
    private static void noShrinking() {
        World w = new World();
        int n = w.n;
        int[] all = {w.fn(n, w.app(w.v0, w.v0)), w.fn(n, w.app(w.s, w.v1)), w.fn(n, w.app(w.app(w.s, w.v0), w.v0)),
            w.fn(n, w.app(w.s, w.z)), w.pi(n, w.app(w.s, w.v0)), w.fn(n, w.v0), w.fn(n, w.pi(w.s, w.v0)),
            w.fn(n, w.app(w.pi(w.v0, w.z), w.v0)), w.fn(n, w.app(w.pi(n, w.v1), w.v0)), w.fn(n, w.app(w.s, w.app(w.s, w.v0))),
            w.fn(n, w.app(w.app(w.z, w.fn(n, w.app(w.v0, w.v1))), w.v0)), w.fn(n, w.pi(n, w.app(w.s, w.v0)))};
        for (int t : all) unchanged("term " + t, w.x, t, () -> w.x.normal(t));
        int kept = w.fn(n, w.app(w.app(w.v1, w.fn(n, w.app(w.z, w.v1))), w.v0));
        dueNormal("f has this variable by a step", w,
            w.fn(n, w.app(w.app(w.v1, w.fn(n, w.x.let(n, w.z, w.app(w.z, w.v2)))), w.v0)), kept, 1);
        dueNormal("f has this variable behind a step", w,
            w.fn(w.x.let(w.set, n, w.v0), w.app(w.app(w.v1, w.fn(n, w.app(w.z, w.v1))), w.v0)), kept, 1);
        dueNormal("f has not this variable, by a step", w, w.fn(n, w.app(w.app(w.v1, w.fn(n, w.x.let(n, w.v1, w.app(w.v1, w.z)))), w.v0)),
            w.app(w.v0, w.fn(n, w.app(w.v0, w.z))), 1);
    }

    // Promise 11: "from within outward".
    private static void shrinkingFromWithin() {
        World w = new World();
        int n = w.n;
        dueNormal("a LAMBDA in a LAMBDA", w, w.fn(n, w.fn(n, w.app(w.app(w.v2, w.v1), w.v0))), w.v0, 0);
        int three = w.fn(n, w.fn(n, w.fn(n, w.app(w.app(w.app(w.s, w.v2), w.v1), w.v0))));
        dueNormal("three of them", w, three, w.s, 0);
        int inF = w.fn(n, w.app(w.app(w.z, w.fn(w.v0, w.app(w.s, w.v0))), w.v0));
        dueNormal("the variable goes with one within", w, inF, w.app(w.z, w.s), 0);
        int turned = w.fn(n, w.fn(n, w.app(w.app(w.s, w.v0), w.v1)));
        dueNormal("not in this order", w, turned, turned, 0);
        dueNormal("the outer alone is none", w, w.fn(n, w.fn(n, w.app(w.app(w.v1, w.v1), w.v0))),
            w.fn(n, w.app(w.v0, w.v0)), 0);
    }

    // Promises 11, 12, 13: "It is OUT if it takes more than 30 steps": names that stand for names.
    private static void thirtyStepsByName() {
        World w = new World();
        int at29 = w.chain(w.n, w.z, 29), at30 = w.define(0, w.n, at29), at31 = w.define(0, w.n, at30);
        dueNormal("29 steps", w, at29, w.z, 29);
        dueNormal("30 steps", w, at30, w.z, 30);
        dueOut("31 steps", w, at31);
        due("30 steps of two terms are 30 of each", w.x.same(at30, at30), 1);
        due("30 steps in a part, and one more", w.x.steps(w.pi(at30, at29)), OUT);
        due("29 steps in a part, and one more", w.x.steps(w.pi(at29, w.x.let(w.n, w.z, w.v0))), 30);
        due("30 steps and one that shrinks", w.x.normal(w.fn(at30, w.app(w.s, w.v0))), w.s);
    }

    // Promises 11, 12, 13: "It is OUT if it takes more than 30 steps": LETs that copy LETs.
    private static void thirtyStepsByLet() {
        World w = new World();
        Counted x = w.x;
        int step = x.let(w.n, w.z, w.v0), two = w.app(w.v0, w.v0);
        int at30 = x.let(w.n, step, x.let(w.n, two, w.copies(14)));
        int at31 = x.let(w.n, step, x.let(w.n, two, w.app(w.copies(14), w.v1)));
        due("30 steps", x.steps(at30), 30);
        due("their normal form's size", x.part(x.normal(at30), 4), 14 * 3 + 13);
        dueOut("31 steps", w, at31);
    }

    // Promises 11, 12, 13: "It is OUT if it takes more than 30 steps": APPLYs that copy APPLYs.
    private static void thirtyStepsByApply() {
        World w = new World();
        Counted x = w.x;
        int step = w.app(w.fn(w.n, w.v0), w.z), two = w.app(w.v0, w.v0);
        int at30 = w.app(w.fn(w.n, w.app(w.fn(w.n, w.copies(14)), two)), step);
        int at31 = w.app(w.fn(w.n, w.app(w.fn(w.n, w.app(w.copies(14), w.v1)), two)), step);
        due("30 steps", x.steps(at30), 30);
        due("their normal form's size", x.part(x.normal(at30), 4), 14 * 3 + 13);
        dueOut("31 steps", w, at31);
    }

    // Promises 11, 12, 13: "It is OUT if it takes more than 30 steps": where there is no last one.
    private static void noEnd() {
        World w = new World();
        int omega = w.fn(w.n, w.app(w.v0, w.v0));
        dueOut("as large as before", w, w.app(omega, omega));
        int growing = w.fn(w.n, w.app(w.app(w.v0, w.v0), w.v0));
        dueOut("larger each time", w, w.app(growing, growing));
        int last = w.app(w.fn(w.n, w.z), w.app(omega, omega));
        dueNormal("it goes before it is met", w, last, w.z, 1);
    }

    // Promises 11, 12, 13: "if .. behind one of them the term has a size above 200": a normal form's size is odd, so 199 is the last.
    private static void sizeBehindTheLastStep() {
        World w = new World();
        Counted x = w.x;
        int fits = x.let(w.n, w.ofSize(19), w.copies(10)), over = x.let(w.n, w.ofSize(19), w.app(w.s, w.copies(10)));
        due("size 199", x.part(x.normal(fits), 4), 199);
        due("its steps", x.steps(fits), 1);
        due("same", x.same(fits, fits), 1);
        dueOut("size 201", w, over);
        dueOut("a size far above 200", w, x.let(w.n, w.ofSize(29), w.copies(14)));
        int fitsApply = w.app(w.fn(w.n, w.copies(10)), w.ofSize(19)), overApply = w.app(w.fn(w.n, w.app(w.s, w.copies(10))), w.ofSize(19));
        due("size 199 by APPLY", x.normal(fitsApply), x.normal(fits));
        dueOut("size 201 by APPLY", w, overApply);
    }

    // Promises 11, 12, 13: "if before or behind one of them the term has a size above 200", though it is small in the end.
    private static void sizeBetweenSteps() {
        World w = new World();
        Counted x = w.x;
        int at200 = x.let(w.n, w.ofSize(21), x.let(w.n, w.copies(9), w.z));
        dueNormal("size 200 between two steps", w, at200, w.z, 2);
        int at199 = x.let(w.n, w.ofSize(19), w.app(w.fn(w.n, w.z), w.app(w.copies(9), w.ofSize(15))));
        dueNormal("size 199 between two steps", w, at199, w.z, 2);
        int at201 = x.let(w.n, w.ofSize(19), w.app(w.fn(w.n, w.z), w.app(w.copies(9), w.ofSize(17))));
        dueOut("size 201 between two steps", w, at201);
        int at202 = x.let(w.n, w.ofSize(21), x.let(w.n, w.app(w.s, w.copies(9)), w.z));
        dueOut("size 202 between two steps", w, at202);
    }

    // Promises 11, 12, 13: "the term has a size above 200": the whole of it, not the part that the step makes.
    private static void sizeOfTheWholeTerm() {
        World w = new World();
        Counted x = w.x;
        int large = x.let(w.n, w.ofSize(17), w.copies(9));
        due("the part's size", x.part(x.normal(large), 4), 161);
        for (int kind = PI; kind <= APPLY; kind++) {
            int k = kind, small = x.normal(w.app(w.fn(w.n, w.copies(3)), w.ofSize(3)));
            due("size", x.part(small, 4), 11);
            due("with 11 beside it, kind " + k, x.part(x.normal(x.term(k, large, small)), 4), 173);
        }
        int two = w.pi(large, x.let(w.n, w.ofSize(5), w.copies(6)));
        due("161, 35 and 1 are 197", x.part(x.normal(two), 4), 197);
        int three = w.pi(w.n, two);
        due("161, 35 and 3 are 199", x.part(x.normal(three), 4), 199);
        dueOut("161, 35 and 5 are 201", w, w.pi(w.n, three));
    }

    // Promises 11, 12, 13: "behind one of them the term has a size above 200", where the step is a NAME's.
    private static void sizeByName() {
        World w = new World();
        Counted x = w.x;
        int large = x.normal(x.let(w.n, w.ofSize(49), w.app(w.s, w.app(w.s, w.v0))));
        for (int k = 0; k < 6; k++) {
            int c = w.define(0, w.n, large);
            large = x.normal(w.times(w.s, 12, c));
        }
        due("size", x.part(large, 4), 53 + 6 * 24);
        int c = w.define(0, w.n, large);
        due("size 197 by a NAME", x.normal(c), large);
        int last = x.normal(w.app(w.s, c));
        due("size 199 by a NAME", x.part(last, 4), 199);
        dueOut("size 201 by a NAME", w, w.app(w.s, w.app(w.s, c)));
        dueOut("size 201 by a NAME, though it would go", w, w.app(w.app(w.app(w.s, c), w.z), w.z));
        int d = w.define(0, w.n, last);
        due("a value of size 199", x.normal(d), last);
        due("its steps", x.steps(d), 1);
        dueOut("a value of size 199 and two more", w, w.app(w.s, d));
        dueNormal("it goes before it is met", w, w.app(w.fn(w.n, w.z), d), w.z, 1);
        due("a term of size 199 that has no step", x.steps(last), 0);
    }

    // Promise 11: the size counts "behind one of them", before a LAMBDA shrinks.
    private static void sizeBeforeShrinking() {
        World w = new World();
        Counted x = w.x;
        int f = x.let(w.n, w.ofSize(19), w.copies(9)), a17 = w.ofSize(17), a19 = w.ofSize(19);
        int done = x.normal(f);
        due("f's size", x.part(done, 4), 179);
        dueNormal("199 shrinks to 179", w, w.fn(a17, w.app(f, w.v0)), done, 1);
        dueOut("201 would shrink to 179", w, w.fn(a19, w.app(f, w.v0)));
    }

    // Promises 11, 12, 13: "or a level in it one above 16".
    private static void levelBehindAStep() {
        World w = new World();
        Counted x = w.x;
        int max = w.max(w.p0, w.p1), seven = w.up(0, 6), eight = w.up(0, 7);
        int inSort = x.declare(2, x.type(x.sort(max)), x.sort(max));
        int inFirst = x.declare(2, w.set, x.name(0, max, 0)), inSecond = x.declare(2, w.set, x.name(0, 0, max));
        int inPart = x.declare(2, x.type(w.pi(w.n, x.sort(max))), w.pi(w.n, x.sort(max)));
        int[] names = {inSort, inFirst, inSecond, inPart};
        for (int c : names) {
            int fits = x.name(c, seven, eight), over = x.name(c, eight, eight);
            due("size 16, name " + c, x.steps(fits), 1);
            due("size 16 is no other, name " + c, x.same(fits, fits), 1);
            due("size 16, changed about, name " + c, x.steps(x.name(c, eight, seven)), 1);
            dueOut("size 17, name " + c, w, over);
        }
        int sort = x.normal(x.name(inSort, seven, eight)), first = x.normal(x.name(inFirst, seven, eight)),
            second = x.normal(x.name(inSecond, seven, eight));
        due("a SORT's level", x.levelPart(x.part(sort, 1), 3), 16);
        due("a NAME's first level", x.levelPart(x.part(first, 2), 3), 16);
        due("a NAME's second level", x.levelPart(x.part(second, 3), 3), 16);
        int sixteen = x.part(sort, 1), id = x.declare(1, x.type(w.sortP), w.sortP);
        due("a level of size 16 for a parameter", x.normal(x.name(id, sixteen, 0)), sort);
        int up = x.declare(1, x.type(x.sort(w.up(w.p0, 1))), x.sort(w.up(w.p0, 1)));
        dueOut("UP of one of size 16", w, x.name(up, sixteen, 0));
        due("for a parameter that is not there", x.steps(x.name(id, 0, sixteen)), 1);
    }

    // Promises 11, 12, 13: "if before or behind one of them .. a level in it one above 16", though it goes in the end.
    private static void levelBetweenSteps() {
        World w = new World();
        Counted x = w.x;
        int max = w.max(w.p0, w.p1), seven = w.up(0, 6), eight = w.up(0, 7);
        int c = x.declare(2, x.type(x.sort(max)), x.sort(max));
        int value = w.fn(x.sort(max), w.z);
        int d = x.declare(2, x.type(value), value);
        dueOut("it would go with the next step", w, w.app(x.name(d, eight, eight), w.z));
        dueNormal("size 16 that goes with the next step", w, w.app(x.name(d, seven, eight), w.z), w.z, 2);
        dueNormal("it goes before it is met", w, w.app(w.fn(w.n, w.z), x.name(c, eight, eight)), w.z, 1);
        dueNormal("in a LET's type, it goes before it is met", w, x.let(x.name(c, eight, eight), w.z, w.v0), w.z, 1);
        dueOut("it would shrink away", w, w.fn(x.name(c, eight, eight), w.app(w.s, w.v0)));
        dueNormal("size 16 that shrinks away", w, w.fn(x.name(c, eight, seven), w.app(w.s, w.v0)), w.s, 1);
    }

    // Promise 13: "Whether the normal forms of two terms are the SAME: 1 or 0".
    private static void sameOrNot() {
        World w = new World();
        Counted x = w.x;
        int id = w.fn(w.n, w.v0), zz = w.app(w.z, w.z);
        int[][] same = {{w.z, w.z}, {w.app(id, w.z), w.z}, {w.z, w.app(id, w.z)}, {x.let(w.n, w.z, w.v0), w.app(id, w.z)},
            {w.fn(w.n, w.app(w.s, w.v0)), w.s}, {w.pi(w.app(id, w.z), w.z), w.pi(w.z, x.let(w.n, w.z, w.v0))}, {w.v2, w.v2}};
        for (int[] p : same) unchanged("same(" + p[0] + ", " + p[1] + ")", x, 1, () -> x.same(p[0], p[1]));
        int[][] other = {{w.z, w.n}, {w.prop, w.z}, {w.v0, w.v1}, {w.prop, w.set}, {w.pi(w.n, w.z), w.fn(w.n, w.z)},
            {w.pi(w.n, w.z), w.app(w.n, w.z)}, {zz, w.z}, {w.app(zz, w.z), w.app(w.z, zz)}, {id, w.fn(w.set, w.v0)},
            {w.pi(w.n, w.z), w.pi(w.n, w.n)}, {w.fn(w.n, w.v0), w.fn(w.n, w.v1)}};
        for (int[] p : other) {
            unchanged("same(" + p[0] + ", " + p[1] + ")", x, 0, () -> x.same(p[0], p[1]));
            unchanged("same(" + p[1] + ", " + p[0] + ")", x, 0, () -> x.same(p[1], p[0]));
        }
    }

    // Promise 13: "made alike but for levels, which are the SAME", and these "have the same value whatever parameters are".
    private static void sameLevels() {
        World w = new World();
        Counted x = w.x;
        int p = w.p0, q = w.p1, one = w.one, r = x.level(PARAMETER, 2, 0);
        int[][] levels = {
            {w.max(p, q), w.max(q, p), 1}, {w.imax(p, 0), 0, 1}, {w.imax(one, p), p, 1}, {w.max(p, p), p, 1}, {w.max(0, 0), 0, 1},
            {w.imax(q, w.up(p, 1)), w.max(q, w.up(p, 1)), 1}, {w.up(w.max(p, q), 1), w.max(w.up(q, 1), w.up(p, 1)), 1},
            {w.imax(p, q), w.max(p, q), 0}, {w.max(p, one), p, 0}, {w.imax(w.up(0, 2), p), p, 0}, {w.up(p, 1), p, 0},
            {p, q, 0}, {q, r, 0}, {p, w.up(0, 7), 0}, {w.imax(p, r), w.imax(q, r), 0}, {w.max(r, p), p, 0}};
        for (int[] l : levels) {
            int a = x.sort(l[0]), b = x.sort(l[1]);
            due("SORT " + l[0] + " and SORT " + l[1], x.same(a, b), l[2]);
            due("SORT " + l[1] + " and SORT " + l[0], x.same(b, a), l[2]);
            due("a NAME's first level", x.same(x.name(0, l[0], p), x.name(0, l[1], p)), l[2]);
            due("a NAME's second level", x.same(x.name(0, p, l[0]), x.name(0, p, l[1])), l[2]);
            due("in a part", x.same(w.pi(w.n, w.fn(a, w.z)), w.pi(w.n, w.fn(b, w.z))), l[2]);
        }
        due("another NAME with levels that are the SAME", x.same(x.name(0, p, q), x.name(1, p, q)), 0);
        due("levels of a NAME changed about", x.same(x.name(0, p, q), x.name(0, q, p)), 0);
    }

    // Promise 13: "OUT, if one of them is."
    private static void sameIsOut() {
        World w = new World();
        int omega = w.fn(w.n, w.app(w.v0, w.v0)), out = w.app(omega, omega);
        unchanged("the first is OUT", w.x, OUT, () -> w.x.same(out, w.z));
        unchanged("the second is OUT", w.x, OUT, () -> w.x.same(w.z, out));
        unchanged("both are OUT", w.x, OUT, () -> w.x.same(out, out));
        int at30 = w.chain(w.n, w.z, 30), at31 = w.define(0, w.n, at30);
        unchanged("30 steps", w.x, 1, () -> w.x.same(at30, w.z));
        unchanged("30 steps, and another", w.x, 0, () -> w.x.same(w.n, at30));
        unchanged("31 steps", w.x, OUT, () -> w.x.same(w.z, at31));
    }

    // Promises 11, 12, 13: "what answers have a number for": normal gives numbers, steps and same do not.
    private static void numbersOnlyForNormal() {
        World w = new World();
        Counted x = w.x;
        int t = x.let(w.n, w.app(w.z, w.v2), w.app(w.v0, w.v0)), u = w.app(w.fn(w.n, w.app(w.z, w.v0)), w.set);
        int terms = x.told(1);
        unchanged("steps", x, 1, () -> x.steps(t));
        unchanged("same", x, 0, () -> x.same(t, u));
        due("normal", x.normal(t), terms);
        parts(x, terms, APPLY, x.part(t, 2), x.part(t, 2), NONE, 7, 3);
        due("terms", x.told(1), terms + 1);
        unchanged("normal again", x, terms, () -> x.normal(t));
        unchanged("normal of a normal form", x, terms, () -> x.normal(terms));
    }
}
