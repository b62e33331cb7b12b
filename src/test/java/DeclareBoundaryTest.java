/** The boundary cases of declaring: promises 14 and 17. A remark at each test names its promise and its sentence. */
public final class DeclareBoundaryTest extends Bench {
    public static void main(String[] args) {
        parameters();
        noSuchTerm();
        withoutValue();
        mostNames();
        firstOfSeveral();
        parameterBeyond();
        parameterBeyondInParts();
        parameterBeyondComesFirst();
        parametersOfNames();
        typeOfSomeSort();
        typeBeforeValue();
        notClosed();
        eachReasonOfTyping();
        anotherType();
        thirtySteps();
        tooLarge();
        namesOfEarlierOnes();
        declaredBounds();
        declaredNone();
        finish();
    }

    private static void dueReason(String what, Counted x, int parameters, int type, int v, int reason) {
        unchanged(what, x, NONE - reason, () -> x.declare(parameters, type, v));
    }

    // Promise 14: "IllegalArgument: parameters are not 0 .. 2."
    private static void parameters() {
        Counted x = new Counted();
        int prop = x.sort(0);
        for (int n : new int[] {LEAST, -1, 3, 4, GREATEST}) {
            refused(n + " parameters", x, ARGUMENT, () -> x.declare(n, prop, NONE));
        }
        for (int n = 0; n <= 2; n++) {
            due(n + " parameters", x.declare(n, prop, NONE), n);
            due("they are told", x.declared(n, 0), n);
        }
    }

    // Promise 14 and "IndexOutOfBounds: there is no such .. term".
    private static void noSuchTerm() {
        Counted x = new Counted();
        refused("a type, where there is no term", x, INDEX, () -> x.declare(0, 0, NONE));
        int prop = x.sort(0), set = x.sort(x.level(UP, 0, 0));
        for (int t : new int[] {LEAST, -2, -1, 2, 1500, GREATEST}) {
            refused("type " + t, x, INDEX, () -> x.declare(0, t, NONE));
            refused("type " + t + ", with a value", x, INDEX, () -> x.declare(0, t, prop));
            if (t != NONE) refused("value " + t, x, INDEX, () -> x.declare(0, set, t));
        }
        due("the last term as a type, the first as its value", x.declare(0, set, prop), 0);
        due("the first term as a type", x.declare(0, prop, NONE), 1);
        int last = x.type(set);
        due("the last term as a value", x.declare(0, last, set), 2);
    }

    // Promise 14: "without a value if that is NONE".
    private static void withoutValue() {
        World w = new World();
        Counted x = w.x;
        int c = x.declare(0, w.n, NONE), d = x.declare(0, w.n, w.z);
        due("without", x.declared(c, 2), NONE);
        due("it has no step", x.steps(x.name(c, 0, 0)), 0);
        due("with", x.declared(d, 2), w.z);
        due("it has a step", x.steps(x.name(d, 0, 0)), 1);
        due("the same again is another name", x.declare(0, w.n, NONE), d + 1);
    }

    /** So many names of SORT ZERO, which is term 0. */
    private static Counted names(int count) {
        Counted x = new Counted();
        x.sort(0);
        for (int c = 0; c < count; c++) due("a name", x.declare(c % 3, 0, NONE), c);
        return x;
    }

    // Promise 14: "UnsupportedOperation: there are 40 names (all these before any reason)."
    private static void mostNames() {
        Counted last = names(39);
        dueReason("a reason, where there are 39", last, 0, 0, 0, 7);
        due("the 40th name", last.declare(0, 0, NONE), 39);
        due("names", last.told(2), 40);
        Counted x = names(40);
        refused("a 41st name", x, TOO_MANY, () -> x.declare(0, 0, NONE));
        refused("a 41st name, that has reason 7", x, TOO_MANY, () -> x.declare(0, 0, 0));
        int variable = x.variable(0), strange = x.sort(x.level(PARAMETER, 0, 0));
        refused("a 41st name, that has reason 1", x, TOO_MANY, () -> x.declare(0, variable, NONE));
        refused("a 41st name, that has reason 8", x, TOO_MANY, () -> x.declare(0, strange, NONE));
        due("the last name", x.part(x.name(39, 0, 0), 1), 39);
        refused("name 40", x, INDEX, () -> x.name(40, 0, 0));
        refused("declared(40, 0)", x, INDEX, () -> x.declared(40, 0));
        due("the last one's parameters", x.declared(39, 0), 0);
        due("the one's before", x.declared(38, 0), 2);
    }

    // Promise 14: "Of several that a call names, the first one": IllegalArgument, IndexOutOfBounds, UnsupportedOperation, a reason.
    private static void firstOfSeveral() {
        Counted x = names(40);
        refused("parameters and no type", x, ARGUMENT, () -> x.declare(3, -1, -2));
        refused("parameters, where there are 40", x, ARGUMENT, () -> x.declare(-1, 0, NONE));
        refused("no type, where there are 40", x, INDEX, () -> x.declare(0, 1, NONE));
        refused("no value, where there are 40", x, INDEX, () -> x.declare(0, 0, 1));
        refused("no value, -2", x, INDEX, () -> x.declare(0, 0, -2));
        Counted y = names(3);
        int variable = y.variable(0);
        refused("no value, where the type has a reason", y, INDEX, () -> y.declare(0, variable, 99));
        refused("no type, where the value has a reason", y, INDEX, () -> y.declare(0, 99, variable));
    }

    // Promise 14: "8: a parameter beyond these is in them".
    private static void parameterBeyond() {
        Counted x = new Counted();
        int[] sort = new int[3], type = new int[3];
        for (int k = 0; k < 3; k++) {
            sort[k] = x.sort(x.level(PARAMETER, k, 0));
            type[k] = x.type(sort[k]);
        }
        int names = 0;
        for (int n = 0; n <= 2; n++) {
            for (int k = 0; k < 3; k++) {
                if (k < n) {
                    due("PARAMETER " + k + " of " + n, x.declare(n, sort[k], NONE), names++);
                    due("PARAMETER " + k + " of " + n + " in both", x.declare(n, type[k], sort[k]), names++);
                } else {
                    dueReason("PARAMETER " + k + " of " + n, x, n, sort[k], NONE, 8);
                    dueReason("PARAMETER " + k + " of " + n + " in both", x, n, type[k], sort[k], 8);
                }
            }
        }
    }

    // Promise 14: "8: a parameter beyond these is in them": wherever it is, though it counts nothing there.
    private static void parameterBeyondInParts() {
        World w = new World();
        Counted x = w.x;
        int p = w.p0, q = w.p1, r = x.level(PARAMETER, 2, 0), sortQ = x.sort(q);
        int[] inType = {sortQ, x.sort(w.up(q, 1)), x.sort(w.max(q, p)), x.sort(w.max(p, q)), x.sort(w.imax(q, 0)), x.sort(w.imax(0, q)),
            x.sort(r), w.pi(sortQ, w.n), w.pi(w.n, sortQ), x.name(0, q, 0), x.name(0, 0, q), x.name(0, p, r),
            w.pi(w.n, w.pi(w.n, x.name(0, 0, r)))};
        for (int t : inType) dueReason("in type " + t, x, 1, t, NONE, 8);
        int[] inValue = {x.name(1, q, 0), x.name(1, 0, q), w.app(w.s, x.name(1, r, r)), w.app(x.name(2, 0, q), w.z),
            x.let(sortQ, w.n, w.z), x.let(w.n, x.name(1, q, q), w.z), x.let(w.n, w.z, x.name(1, q, q)), w.app(w.fn(sortQ, w.z), w.n)};
        for (int v : inValue) dueReason("in value " + v, x, 1, w.n, v, 8);
        int far = x.sort(w.up(r, 7));
        for (int k = 0; k < 8; k++) far = x.type(far);
        due("a level of size 16", x.levelPart(x.part(far, 1), 3), 16);
        dueReason("as the last mark of a level of size 16", x, 2, far, NONE, 8);
    }

    // Promise 14: "8: a parameter beyond these is in them; then ..": it comes before every other reason.
    private static void parameterBeyondComesFirst() {
        World w = new World();
        Counted x = w.x;
        dueReason("before 1", x, 0, w.pi(w.v0, w.sortP), NONE, 8);
        dueReason("before 2", x, 0, w.app(w.z, w.sortP), NONE, 8);
        dueReason("before 4", x, 0, w.fn(w.z, w.sortP), NONE, 8);
        dueReason("in the value, before the type's 1", x, 0, w.v0, w.sortP, 8);
        dueReason("in the value, before the type's 4", x, 0, w.z, w.sortP, 8);
        dueReason("in the value, before 7", x, 0, w.n, w.sortP, 8);
        dueReason("1, where it is not beyond", x, 1, w.pi(w.v0, w.sortP), NONE, 1);
        dueReason("7, where it is not beyond", x, 1, w.n, w.sortP, 7);
    }

    // Promise 14, promise 17: names with parameters, and what these are in a NAME.
    private static void parametersOfNames() {
        World w = new World();
        Counted x = w.x;
        int value = w.fn(w.sortP, w.fn(w.v0, w.v0)), type = w.pi(w.sortP, w.pi(w.v0, w.v1));
        int id = x.declare(1, type, value);
        int used = w.app(x.name(id, w.one, 0), w.n, w.z);
        due("its levels make it of N", x.type(used), w.n);
        int ofZero = w.app(x.name(id, 0, 0), w.n), ofSecond = w.app(x.name(id, 0, w.one), w.n);
        unchanged("with ZERO it is not", x, -4, () -> x.type(ofZero));
        unchanged("the second level counts nothing here", x, -4, () -> x.type(ofSecond));
        due("as a value", x.declare(0, w.n, used), id + 1);
    }

    // Promise 14: "then the type is of some SORT" (4), by the normal form of its type.
    private static void typeOfSomeSort() {
        World w = new World();
        Counted x = w.x;
        int names = x.told(2);
        for (int t : new int[] {w.z, w.s, w.app(w.s, w.z), w.fn(w.n, w.v0)}) dueReason("type " + t, x, 0, t, NONE, 4);
        int byStep = w.axiom(0, x.let(x.type(w.set), w.set, w.v0));
        due("the first of these", x.told(2), names + 1);
        due("of a SORT by a step", x.declare(0, byStep, NONE), names + 1);
        int n = names + 2;
        for (int t : new int[] {w.prop, w.set, w.n, w.nn, w.pi(w.prop, w.v0), x.let(w.set, w.n, w.v0)}) {
            due("type " + t, x.declare(0, t, NONE), n++);
        }
    }

    // Promise 14: "then the type is of some SORT; then the value is typed".
    private static void typeBeforeValue() {
        World w = new World();
        Counted x = w.x;
        int seven = w.up(0, 6);
        int[] bad = {w.v0, w.app(w.z, w.z), w.app(w.s, w.s), w.fn(w.z, w.z), w.pi(x.sort(seven), x.sort(seven)), x.let(w.n, w.s, w.z)};
        for (int i = 0; i < bad.length; i++) {
            for (int v : bad) dueReason("the type's reason before the value's", x, 0, bad[i], v, i + 1);
            dueReason("the type's reason", x, 0, bad[i], w.z, i + 1);
            dueReason("the value's reason", x, 0, w.n, bad[i], i + 1);
            dueReason("no SORT before the value's reason", x, 0, w.z, bad[i], 4);
        }
    }

    // Promise 14: "1 also where one is not closed, when that variable is met".
    private static void notClosed() {
        World w = new World();
        Counted x = w.x;
        dueReason("a type that is not closed", x, 0, w.v0, NONE, 1);
        dueReason("a type that is not closed below a binder", x, 0, w.pi(w.n, w.v1), NONE, 1);
        due("a type that is closed", x.declare(0, w.pi(w.set, w.v0), NONE), x.told(2) - 1);
        dueReason("a value that is not closed", x, 0, w.n, w.v0, 1);
        dueReason("a value that is not closed below a binder", x, 0, w.nn, w.fn(w.n, w.v1), 1);
        due("a value that is closed", x.declare(0, w.nn, w.fn(w.n, w.v0)), x.told(2) - 1);
        dueReason("another reason is met before", x, 0, w.pi(w.z, w.v1), NONE, 4);
        dueReason("another reason is met before, in the value", x, 0, w.n, w.app(w.z, w.v1), 2);
        dueReason("another reason is met behind", x, 0, w.pi(w.v0, w.z), NONE, 1);
        dueReason("the variable would go with a step", x, 0, w.n, w.app(w.fn(w.n, w.z), w.v0), 1);
    }

    // Promise 14: "NONE less the reason"; "1 to 6 as in typing, in its order".
    private static void eachReasonOfTyping() {
        World w = new World();
        Counted x = w.x;
        int names = x.told(2);
        due("1", x.declare(0, w.v0, NONE), -2);
        due("2", x.declare(0, w.app(w.z, w.z), NONE), -3);
        due("3", x.declare(0, w.app(w.s, w.s), NONE), -4);
        due("4", x.declare(0, w.z, NONE), -5);
        due("5", x.declare(0, w.pi(x.sort(w.up(0, 6)), x.sort(w.up(0, 6))), NONE), -6);
        due("6", x.declare(0, x.let(w.n, w.s, w.n), NONE), -7);
        due("7", x.declare(0, w.n, w.s), -8);
        due("8", x.declare(0, w.sortP, NONE), -9);
        due("no name has come of these", x.told(2), names);
        due("the next name's number", x.declare(0, w.n, NONE), names);
    }

    // Promise 14: "the normal forms of its type and of the type are the SAME (7: not so)".
    private static void anotherType() {
        World w = new World();
        Counted x = w.x;
        for (int v : new int[] {w.s, w.n, w.prop, w.nn}) dueReason("value " + v, x, 0, w.n, v, 7);
        int byStep = x.let(w.set, w.n, w.v0), of = w.axiom(0, byStep), names = x.told(2);
        due("the type by a step", x.declare(0, byStep, w.z), names);
        due("the value's type by a step", x.declare(0, w.n, of), names + 1);
        due("both by a step", x.declare(0, byStep, of), names + 2);
        due("the type is kept as it was", x.declared(names, 1), byStep);
        int pq = w.max(w.p0, w.p1), qp = w.max(w.p1, w.p0), ipq = w.imax(w.p0, w.p1), type = x.sort(w.up(pq, 1));
        due("a level that is the SAME", x.declare(2, type, x.sort(qp)), names + 3);
        dueReason("a level that is another where a parameter is 0", x, 2, type, x.sort(ipq), 7);
        dueReason("a level that is less", x, 2, type, w.sortP, 7);
        dueReason("a level that is more", x, 2, x.sort(w.up(w.p0, 1)), x.sort(pq), 7);
        int pred = w.axiom(0, w.pi(w.nn, w.prop)), proof = w.axiom(0, w.app(pred, w.s));
        due("by one that shrinks", x.declare(0, w.app(pred, w.fn(w.n, w.app(w.s, w.v0))), proof), x.told(2) - 1);
    }

    // Promise 14: "5: a normal form that is needed is OUT": the type's type, the value's type, and the type for its value.
    private static void thirtySteps() {
        World w = new World();
        Counted x = w.x;
        int at30 = w.chain(w.set, w.n, 30), at31 = w.define(0, w.set, at30);
        int of30 = w.axiom(0, at30), of31 = w.axiom(0, at31), names = x.told(2);
        due("a type by 30 steps", x.declare(0, at30, w.z), names);
        dueReason("a type by 31 steps", x, 0, at31, w.z, 5);
        due("a type by 31 steps, without a value", x.declare(0, at31, NONE), names + 1);
        due("a value's type by 30 steps", x.declare(0, w.n, of30), names + 2);
        dueReason("a value's type by 31 steps", x, 0, w.n, of31, 5);
        dueReason("both by 31 steps, though they are one", x, 0, at31, of31, 5);
        dueReason("the value's own reason before that", x, 0, at31, w.v0, 1);
        dueReason("5 before 7", x, 0, at31, w.s, 5);
        World y = new World();
        int sort30 = y.chain(y.x.type(y.set), y.set, 30), sort31 = y.define(0, y.x.type(y.set), sort30);
        int a30 = y.axiom(0, sort30), a31 = y.axiom(0, sort31), count = y.x.told(2);
        due("the type's type by 30 steps", y.x.declare(0, a30, NONE), count);
        dueReason("the type's type by 31 steps", y.x, 0, a31, NONE, 5);
        dueReason("that before the value's reason", y.x, 0, a31, y.v0, 5);
    }

    // Promise 14: "5: .. or a type that comes about has a size above 200, or a level in it one above 16".
    private static void tooLarge() {
        World w = new World();
        Counted x = w.x;
        int six = w.up(0, 5), seven = w.up(0, 6), names = x.told(2);
        due("a type whose level has a size of 16", x.declare(0, w.pi(x.sort(six), x.sort(seven)), NONE), names);
        dueReason("a type whose level has a size of 17", x, 0, w.pi(x.sort(seven), x.sort(seven)), NONE, 5);
        int t = x.sort(w.up(0, 7));
        for (int size = 9; size <= 15; size++) t = x.type(t);
        due("SORT of a level of size 15", x.declare(0, t, NONE), names + 1);
        dueReason("SORT of a level of size 16", x, 0, x.type(t), NONE, 5);
        Sizes s = new Sizes();
        int fits = s.w.app(s.withThree(53), s.even(50)), over = s.w.app(s.withThree(57), s.w.ofSize(49));
        int type = s.w.x.type(fits);
        due("a type's size", s.w.x.part(type, 4), 200);
        due("a value whose type has a size of 200", s.w.x.declare(0, type, fits), s.w.x.told(2) - 1);
        dueReason("a value whose type has a size of 201", s.w.x, 0, type, over, 5);
        dueReason("that before 7", s.w.x, 0, s.w.n, over, 5);
    }

    // Promise 14: a value may have names that are there, and these have steps in it; no name is in its own value.
    private static void namesOfEarlierOnes() {
        World w = new World();
        Counted x = w.x;
        int c = w.define(0, w.n, w.app(w.s, w.z)), d = w.define(0, w.n, w.app(w.s, c));
        due("steps", x.steps(d), 2);
        due("its normal form", x.normal(d), w.app(w.s, w.app(w.s, w.z)));
        due("same", x.same(d, w.app(w.s, c)), 1);
        refused("the next name is not there yet", x, INDEX, () -> x.name(x.part(d, 1) + 1, 0, 0));
    }

    // Promise 17: "its parameters (what = 0), the numbers of its type (1) and value (2; NONE)", and no other what.
    private static void declaredBounds() {
        Counted x = new Counted();
        for (int what : new int[] {-1, 0, 2, 3}) {
            refused("declared(0, " + what + "), where there is none", x, INDEX, () -> x.declared(0, what));
        }
        x.sort(0);
        x.declare(0, 0, NONE);
        x.declare(2, 0, NONE);
        for (int what : new int[] {LEAST, -1, 3, 4, GREATEST}) {
            refused("declared(0, " + what + ")", x, ARGUMENT, () -> x.declared(0, what));
            refused("declared(1, " + what + ")", x, ARGUMENT, () -> x.declared(1, what));
        }
        for (int c : new int[] {LEAST, -1, 2, 40, GREATEST}) {
            for (int what : new int[] {-1, 0, 2, 3}) refused("declared(" + c + ", " + what + ")", x, INDEX, () -> x.declared(c, what));
        }
        unchanged("the last name's parameters", x, 2, () -> x.declared(1, 0));
        unchanged("the last name's value", x, NONE, () -> x.declared(1, 2));
    }

    // Promise 17: "value (2; NONE)": a value that is term 0 is one.
    private static void declaredNone() {
        Counted x = new Counted();
        int prop = x.sort(0), set = x.sort(x.level(UP, 0, 0));
        due("with term 0 as its value", x.declare(1, set, prop), 0);
        due("without", x.declare(0, prop, NONE), 1);
        int[][] due = {{1, set, prop}, {0, prop, NONE}};
        for (int c = 0; c < 2; c++) {
            for (int what = 0; what < 3; what++) due("declared(" + c + ", " + what + ")", x.declared(c, what), due[c][what]);
        }
    }
}
