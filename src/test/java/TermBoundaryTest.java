/** The boundary cases of making terms: promises 5 to 9 and 15. A remark at each test names its promise and its sentence. */
public final class TermBoundaryTest extends Bench {
    public static void main(String[] args) {
        sortOfNoLevel();
        sortOfLargestLevel();
        variableBounds();
        variablesOfAnswers();
        nameOfNone();
        nameWithAnyLevels();
        termKinds();
        termOfNoTerms();
        letOfNoTerms();
        madeAlike();
        largestAskedTerm();
        largestAskedLet();
        largeTermsThatAreThere();
        largeLetThatIsThere();
        answersHaveBoundsOfTheirOwn();
        lastTermThatMayBe();
        noTermMore();
        termsFirstOfSeveral();
        partBounds();
        partsOfEachKind();
        partSizes();
        bindersThatAreMissing();
        finish();
    }

    // Promise 5 and "IndexOutOfBounds: there is no such level".
    private static void sortOfNoLevel() {
        Counted x = new Counted();
        for (int l : new int[] {LEAST, -1, 1, 2, 300, GREATEST}) refused("sort(" + l + ")", x, INDEX, () -> x.sort(l));
        due("SORT of ZERO", x.sort(0), 0);
        x.level(UP, 0, 0);
        x.level(PARAMETER, 2, 0);
        due("SORT of the last level", x.sort(2), 1);
        refused("SORT of the next", x, INDEX, () -> x.sort(3));
        unchanged("SORT of ZERO again", x, 0, () -> x.sort(0));
        unchanged("SORT of the last again", x, 1, () -> x.sort(2));
        parts(x, 1, SORT, 2, NONE, NONE, 1, 0);
    }

    // Promise 5, where a level is there as an answer: it is the level that has a size above 8, not the term.
    private static void sortOfLargestLevel() {
        World w = new World();
        int nine = w.x.part(w.x.type(w.x.sort(w.up(0, 7))), 1);
        due("its size", w.x.levelPart(nine, 3), 9);
        unchanged("its SORT, which is there", w.x, w.x.told(1) - 1, () -> w.x.sort(nine));
        due("the SORT of another such one", w.x.part(w.x.sort(w.x.part(w.x.type(w.x.sort(w.up(w.p0, 7))), 1)), 4), 1);
    }

    // Promise 6: "IllegalArgument: it is not 0 .. 59."
    private static void variableBounds() {
        Counted x = new Counted();
        for (int i : new int[] {LEAST, -1, 60, 61, GREATEST}) {
            refused("variable(" + i + ")", x, ARGUMENT, () -> x.variable(i));
        }
        due("VARIABLE 59", x.variable(59), 0);
        due("VARIABLE 0", x.variable(0), 1);
        unchanged("VARIABLE 59 again", x, 0, () -> x.variable(59));
        unchanged("VARIABLE 0 again", x, 1, () -> x.variable(0));
        parts(x, 0, VARIABLE, 59, NONE, NONE, 1, 60);
        parts(x, 1, VARIABLE, 0, NONE, NONE, 1, 1);
    }

    // Promise 6, where an answer has a VARIABLE beyond 59: it is not asked for by its number even then.
    private static void variablesOfAnswers() {
        World w = new World();
        int made = w.x.normal(w.x.let(w.n, w.x.variable(59), w.fn(w.n, w.v1)));
        parts(w.x, w.x.part(made, 2), VARIABLE, 60, NONE, NONE, 1, 61);
        due("binders that it wants", w.x.part(made, 5), 60);
        refused("variable(60)", w.x, ARGUMENT, () -> w.x.variable(60));
    }

    // Promise 7 and "IndexOutOfBounds: there is no such level, term, or name".
    private static void nameOfNone() {
        Counted x = new Counted();
        refused("name 0, where there is none", x, INDEX, () -> x.name(0, 0, 0));
        x.level(UP, 0, 0);
        x.sort(0);
        x.declare(0, 0, NONE);
        x.declare(0, 0, NONE);
        for (int c : new int[] {LEAST, -1, 2, 40, GREATEST}) refused("name " + c, x, INDEX, () -> x.name(c, 0, 0));
        for (int l : new int[] {LEAST, -1, 2, 300, GREATEST}) {
            refused("first level " + l, x, INDEX, () -> x.name(0, l, 0));
            refused("second level " + l, x, INDEX, () -> x.name(0, 0, l));
        }
        due("the last name with the last levels", x.name(1, 1, 1), 1);
        parts(x, 1, NAME, 1, 1, 1, 1, 0);
        due("the first name with ZERO", x.name(0, 0, 0), 2);
        parts(x, 2, NAME, 0, 0, 0, 1, 0);
    }

    // Promise 7: "NAME c with two levels", whatever its declaration's parameters are, and however large they are.
    private static void nameWithAnyLevels() {
        World w = new World();
        Counted x = w.x;
        int p2 = x.level(PARAMETER, 2, 0), terms = x.told(1);
        due("a name of no parameters", x.name(0, p2, w.one), terms);
        due("with its levels changed about", x.name(0, w.one, p2), terms + 1);
        unchanged("again", x, terms, () -> x.name(0, p2, w.one));
        due("its type has no parameter", x.type(terms), w.set);
        int nine = x.part(x.type(x.sort(w.up(0, 7))), 1);
        int large = x.name(0, nine, nine);
        parts(x, large, NAME, 0, nine, nine, 1, 0);
    }

    // Promise 8: "PI (kind 3), LAMBDA (4) or APPLY (5)", "IllegalArgument: the kind."
    private static void termKinds() {
        Counted x = new Counted();
        x.sort(0);
        for (int kind : new int[] {LEAST, -1, SORT, VARIABLE, NAME, LET, 7, GREATEST}) {
            refused("term of kind " + kind, x, ARGUMENT, () -> x.term(kind, 0, 0));
        }
        due("kind 3", x.term(3, 0, 0), 1);
        due("kind 4", x.term(4, 0, 0), 2);
        due("kind 5", x.term(5, 0, 0), 3);
        parts(x, 1, PI, 0, 0, NONE, 3, 0);
        parts(x, 2, LAMBDA, 0, 0, NONE, 3, 0);
        parts(x, 3, APPLY, 0, 0, NONE, 3, 0);
    }

    // Promise 8 and "IndexOutOfBounds: there is no such .. term".
    private static void termOfNoTerms() {
        for (int kind = PI; kind <= APPLY; kind++) {
            Counted x = new Counted();
            int k = kind;
            refused("kind " + k + ", where there is no term", x, INDEX, () -> x.term(k, 0, 0));
            x.sort(0);
            x.variable(0);
            for (int t : new int[] {LEAST, -1, 2, 1500, GREATEST}) {
                refused("kind " + k + " of " + t + ", 0", x, INDEX, () -> x.term(k, t, 0));
                refused("kind " + k + " of 0, " + t, x, INDEX, () -> x.term(k, 0, t));
            }
            due("kind " + k + " of the last and the first", x.term(k, 1, 0), 2);
            due("kind " + k + " of the first and the last", x.term(k, 0, 2), 3);
        }
    }

    // Promise 9 and "IndexOutOfBounds: there is no such .. term".
    private static void letOfNoTerms() {
        Counted x = new Counted();
        refused("LET, where there is no term", x, INDEX, () -> x.let(0, 0, 0));
        x.sort(0);
        x.variable(0);
        for (int t : new int[] {LEAST, -1, 2, 1500, GREATEST}) {
            refused("LET of type " + t, x, INDEX, () -> x.let(t, 0, 0));
            refused("LET of value " + t, x, INDEX, () -> x.let(0, t, 0));
            refused("LET of body " + t, x, INDEX, () -> x.let(0, 0, t));
        }
        due("LET of the last", x.let(1, 0, 0), 2);
        due("LET with the last as its value", x.let(0, 2, 0), 3);
        due("LET with the last as its body", x.let(0, 0, 3), 4);
        parts(x, 4, LET, 0, 0, 3, 10, 0);
    }

    // Promises 5 to 9 and "Levels and terms that are made alike are one, and have one number".
    private static void madeAlike() {
        World w = new World();
        Counted x = w.x;
        int first = x.told(1);
        int[] made = {w.pi(w.n, w.z), w.pi(w.z, w.n), w.fn(w.n, w.z), w.app(w.n, w.z), w.app(w.z, w.n),
            x.let(w.n, w.z, w.s), x.let(w.z, w.n, w.s), x.let(w.n, w.s, w.z), x.let(w.s, w.z, w.n)};
        for (int k = 0; k < made.length; k++) due("each is another", made[k], first + k);
        unchanged("PI again", x, made[0], () -> w.pi(w.n, w.z));
        unchanged("PI changed about again", x, made[1], () -> w.pi(w.z, w.n));
        unchanged("LAMBDA again", x, made[2], () -> w.fn(w.n, w.z));
        unchanged("APPLY again", x, made[3], () -> w.app(w.n, w.z));
        unchanged("LET again", x, made[5], () -> x.let(w.n, w.z, w.s));
        unchanged("LET changed about again", x, made[7], () -> x.let(w.n, w.s, w.z));
        due("terms that are the SAME are not one", w.app(w.fn(w.n, w.v0), w.z) != w.z, true);
        due("SORTs of levels that are the SAME", x.sort(w.max(w.p0, w.p1)) != x.sort(w.max(w.p1, w.p0)), true);
    }

    // Promise 8: "UnsupportedOperation: .. a term of one above 60".
    private static void largestAskedTerm() {
        for (int kind = PI; kind <= APPLY; kind++) {
            World w = new World();
            Counted x = w.x;
            int k = kind;
            int odd = w.ofSize(29), even = x.let(w.n, w.z, w.ofSize(27)), odd31 = w.ofSize(31), odd57 = w.ofSize(57), odd59 = w.ofSize(59);
            due("kind " + k + " of size 60", x.part(x.term(k, odd, even), 4), 60);
            due("kind " + k + " of size 60, changed about", x.part(x.term(k, even, odd), 4), 60);
            due("kind " + k + " of size 59", x.part(x.term(k, odd57, w.z), 4), 59);
            refused("kind " + k + " of size 61", x, TOO_MANY, () -> x.term(k, odd, odd31));
            refused("kind " + k + " of size 61, the first large", x, TOO_MANY, () -> x.term(k, odd59, w.z));
            refused("kind " + k + " of size 61, the second large", x, TOO_MANY, () -> x.term(k, w.z, odd59));
            refused("kind " + k + " of size 119", x, TOO_MANY, () -> x.term(k, odd59, odd59));
        }
    }

    // Promise 9: "UnsupportedOperation: .. a term of one above 60".
    private static void largestAskedLet() {
        World w = new World();
        Counted x = w.x;
        int odd19 = w.ofSize(19), odd21 = w.ofSize(21), even20 = x.let(w.n, w.z, w.ofSize(17)), odd57 = w.ofSize(57);
        int even58 = x.let(w.n, w.z, w.ofSize(55));
        due("LET of size 60", x.part(x.let(odd19, odd19, odd21), 4), 60);
        due("LET of size 60, changed about", x.part(x.let(odd21, odd19, odd19), 4), 60);
        for (int at = 0; at < 3; at++) {
            int[] a = {w.z, w.z, w.z}, b = {w.z, w.z, w.z}, c = {odd19, odd21, odd19};
            a[at] = odd57;
            b[at] = even58;
            c[at] = even20;
            due("LET of size 60, one part large", x.part(x.let(a[0], a[1], a[2]), 4), 60);
            refused("LET of size 61, one part large", x, TOO_MANY, () -> x.let(b[0], b[1], b[2]));
            c[(at + 1) % 3] = odd21;
            c[(at + 2) % 3] = odd19;
            refused("LET of size 61", x, TOO_MANY, () -> x.let(c[0], c[1], c[2]));
        }
    }

    // Promise 8: "as they are asked for by these calls, also where such a one is there as an answer".
    private static void largeTermsThatAreThere() {
        for (int kind = PI; kind <= APPLY; kind++) {
            World w = new World();
            Counted x = w.x;
            int k = kind, v = w.ofSize(31), v29 = w.ofSize(29), v1 = k == APPLY ? w.v0 : w.v1;
            int made = x.normal(x.let(w.n, v, x.term(k, w.v0, v1)));
            parts(x, made, k, v, v, NONE, 63, 0);
            refused("a term of size 63 that is there", x, TOO_MANY, () -> x.term(k, v, v));
            int sixtyOne = x.normal(x.let(w.n, w.ofSize(15), x.term(k, w.times(w.s, 7, w.v0), w.times(w.s, 8, v1))));
            parts(x, sixtyOne, k, v29, v, NONE, 61, 0);
            refused("a term of size 61 that is there", x, TOO_MANY, () -> x.term(k, v29, v));
            refused("a term of that one", x, TOO_MANY, () -> x.term(k, sixtyOne, w.z));
            refused("a LET of that one", x, TOO_MANY, () -> x.let(w.n, w.z, sixtyOne));
        }
    }

    // Promise 9: "also where such a one is there as an answer": a LET in a type.
    private static void largeLetThatIsThere() {
        World w = new World();
        Counted x = w.x;
        int pred = w.axiom(0, w.pi(w.n, w.pi(w.n, w.prop))), v = w.ofSize(29);
        int a = x.let(w.n, w.v0, w.app(pred, w.v1, w.v0));
        int type = x.type(x.let(w.n, v, w.fn(a, w.z)));
        int let = x.part(type, 1);
        parts(x, let, LET, w.n, v);
        due("its size", x.part(let, 4), 64);
        int body = x.part(let, 3);
        refused("a LET of size 64 that is there", x, TOO_MANY, () -> x.let(w.n, v, body));
        int small = w.ofSize(25);
        int other = x.part(x.type(x.let(w.n, small, w.fn(a, w.z))), 1);
        due("the size of another", x.part(other, 4), 56);
        unchanged("a LET of size 56 that is there", x, other, () -> x.let(w.n, small, x.part(other, 3)));
    }

    // Promises 8, 10, 11: "those that come of typing and normal forms have bounds of their own".
    private static void answersHaveBoundsOfTheirOwn() {
        World w = new World();
        Counted x = w.x;
        int both = w.app(w.times(w.s, 7, w.v0), w.times(w.s, 8, w.v0));
        due("a normal form of size 61", x.part(x.normal(x.let(w.n, w.ofSize(15), both)), 4), 61);
        due("a normal form of size 199", x.part(x.normal(x.let(w.n, w.ofSize(19), w.copies(10))), 4), 199);
        int pred = w.axiom(0, w.pi(w.n, w.pi(w.n, w.prop))), two = w.axiom(0, w.pi(w.n, w.app(pred, w.v0, w.v0)));
        due("a type of size 61", x.part(x.type(w.app(two, w.ofSize(29))), 4), 61);
        due("a type of size 117", x.part(x.type(w.app(two, w.ofSize(57))), 4), 117);
        int nine = x.part(x.type(x.sort(w.up(0, 7))), 1);
        due("a level of size 9", x.levelPart(nine, 3), 9);
        due("a level of size 10", x.levelPart(x.part(x.type(x.sort(nine)), 1), 3), 10);
    }

    // Promises 5 to 9: "UnsupportedOperation: there would be more than there may be (.. 1500 terms": the last that may be.
    private static void lastTermThatMayBe() {
        for (int kind = SORT; kind <= LET; kind++) {
            World w = new World();
            w.fill(1499);
            due("terms", w.x.told(1), 1499);
            due("the 1500th, of kind " + kind, newTerm(w, kind), 1499);
            due("terms", w.x.told(1), 1500);
            due("its kind", w.x.part(1499, 0), kind);
            due("that is there", newTerm(w, kind), 1499);
            due("the first one", w.x.sort(0), w.prop);
        }
    }

    /** A term of this kind that fill has not made. */
    private static int newTerm(World w, int kind) {
        switch (kind) {
            case SORT: return w.x.sort(w.p1);
            case VARIABLE: return w.x.variable(9);
            case NAME: return w.x.name(0, w.p1, w.p1);
            case LET: return w.x.let(w.z, w.z, w.set);
            default: return w.x.term(kind, w.v2, w.v2);
        }
    }

    // Promises 5 to 9: "UnsupportedOperation: there would be more than there may be (.. 1500 terms": the first that may not.
    private static void noTermMore() {
        World w = new World();
        Counted x = w.x;
        w.fill(1500);
        due("terms", x.told(1), 1500);
        for (int kind = SORT; kind <= LET; kind++) {
            int k = kind;
            refused("one more, of kind " + k, x, TOO_MANY, () -> newTerm(w, k));
        }
        unchanged("a SORT that is there", x, w.set, () -> x.sort(w.one));
        unchanged("a VARIABLE that is there", x, w.v1, () -> x.variable(1));
        unchanged("a NAME that is there", x, w.z, () -> x.name(1, 0, 0));
        unchanged("a PI that is there", x, w.nn, () -> w.pi(w.n, w.n));
        refused("no level, where there are 1500 terms", x, INDEX, () -> x.sort(99));
        refused("no variable, where there are 1500 terms", x, ARGUMENT, () -> x.variable(60));
        refused("no name, where there are 1500 terms", x, INDEX, () -> x.name(3, 0, 0));
        refused("no level of a name, where there are 1500 terms", x, INDEX, () -> x.name(0, 0, 99));
        refused("no kind, where there are 1500 terms", x, ARGUMENT, () -> x.term(LET, 0, 0));
        refused("no term 1500", x, INDEX, () -> x.term(PI, 0, 1500));
        refused("no LET of term 1500", x, INDEX, () -> x.let(0, 1500, 0));
        due("a level may still be made", x.level(PARAMETER, 2, 0), 4);
    }

    // Promises 8 and 9: "Of several that a call names, the first one": IllegalArgument, IndexOutOfBounds, UnsupportedOperation.
    private static void termsFirstOfSeveral() {
        World w = new World();
        Counted x = w.x;
        int large = w.ofSize(59);
        refused("no kind, of no terms", x, ARGUMENT, () -> x.term(NAME, -1, 1500));
        refused("no kind, of large terms", x, ARGUMENT, () -> x.term(LET, large, large));
        refused("a large term and none", x, INDEX, () -> x.term(PI, large, -1));
        refused("no term and a large one", x, INDEX, () -> x.term(APPLY, -1, large));
        refused("LET of large ones, and no type", x, INDEX, () -> x.let(-1, large, large));
        refused("LET of large ones, and no value", x, INDEX, () -> x.let(large, -1, large));
        refused("LET of large ones, and no body", x, INDEX, () -> x.let(large, large, -1));
        refused("no name, with no level", x, INDEX, () -> x.name(-1, -1, -1));
    }

    // Promise 15: "its kind (what = 0), its parts (1, 2, 3 ..), its size (4), how many binders .. (5)", and no other what.
    private static void partBounds() {
        Counted x = new Counted();
        for (int what : new int[] {-1, 0, 5, 6}) refused("part(0, " + what + "), where there is none", x, INDEX, () -> x.part(0, what));
        x.sort(0);
        x.variable(3);
        for (int what : new int[] {LEAST, -1, 6, 7, GREATEST}) {
            refused("part(0, " + what + ")", x, ARGUMENT, () -> x.part(0, what));
            refused("part(1, " + what + ")", x, ARGUMENT, () -> x.part(1, what));
        }
        for (int t : new int[] {LEAST, -1, 2, 1500, GREATEST}) {
            for (int what : new int[] {-1, 0, 5, 6}) refused("part(" + t + ", " + what + ")", x, INDEX, () -> x.part(t, what));
        }
        unchanged("the last term's kind", x, VARIABLE, () -> x.part(1, 0));
        unchanged("the last term's binders", x, 4, () -> x.part(1, 5));
    }

    // Promise 15: "a level's, term's or name's number, a variable's; NONE, where there is none".
    private static void partsOfEachKind() {
        World w = new World();
        Counted x = w.x;
        parts(x, w.sortP, SORT, w.p0, NONE, NONE, 1, 0);
        parts(x, w.v2, VARIABLE, 2, NONE, NONE, 1, 3);
        parts(x, x.name(2, w.one, w.p1), NAME, 2, w.one, w.p1, 1, 0);
        parts(x, w.pi(w.s, w.z), PI, w.s, w.z, NONE, 3, 0);
        parts(x, w.fn(w.s, w.z), LAMBDA, w.s, w.z, NONE, 3, 0);
        parts(x, w.app(w.s, w.z), APPLY, w.s, w.z, NONE, 3, 0);
        parts(x, x.let(w.s, w.z, w.n), LET, w.s, w.z, w.n, 4, 0);
    }

    // Promise 15 and "A term's SIZE is how many of these are in it": from 1 to 200.
    private static void partSizes() {
        World w = new World();
        Counted x = w.x;
        due("a LET in a LET", x.part(x.let(w.pi(w.n, w.n), w.fn(w.n, w.v0), x.let(w.n, w.z, w.app(w.s, w.v0))), 4), 13);
        int pred = w.axiom(0, w.pi(w.n, w.pi(w.n, w.prop)));
        int ten = w.ofSize(49), many = x.normal(x.let(w.n, ten, w.copies(4)));
        due("size 199", x.part(many, 4), 199);
        int b = w.axiom(0, w.pi(w.n, w.app(pred, w.v0, w.v0)));
        int type = x.type(w.fn(x.let(w.set, w.n, w.n), w.app(b, ten)));
        due("a type of size 106", x.part(type, 4), 1 + 4 + 101);
    }

    // Promise 15: "how many binders would have to be around it for it to be closed", and "It is CLOSED if each variable has
    // its binder in it".
    private static void bindersThatAreMissing() {
        World w = new World();
        Counted x = w.x;
        int n = w.n;
        int[][] due = {{w.fn(n, w.v0), 0}, {w.fn(n, w.v1), 1}, {w.fn(w.v0, n), 1}, {w.fn(w.v0, w.v0), 1}, {w.fn(n, n), 0},
            {w.pi(n, w.v0), 0}, {w.pi(n, w.v1), 1}, {w.pi(w.v0, n), 1}, {w.pi(w.v1, w.v2), 2}, {w.pi(w.v2, w.v1), 3},
            {w.app(w.v0, w.v2), 3}, {w.app(w.v2, w.v0), 3}, {w.app(n, w.v0), 1}, {w.app(w.v0, n), 1}, {w.app(n, n), 0},
            {x.let(n, n, w.v0), 0}, {x.let(n, n, w.v1), 1}, {x.let(n, w.v0, n), 1}, {x.let(w.v0, n, n), 1},
            {x.let(w.v0, w.v1, w.v2), 2}, {x.let(w.v2, w.v1, w.v0), 3}, {x.let(w.v1, w.v2, w.v0), 3}, {x.let(n, n, n), 0}};
        for (int[] d : due) due("binders that term " + d[0] + " wants", x.part(d[0], 5), d[1]);
        int in28 = x.variable(28), in29 = x.variable(29), last = x.variable(59);
        for (int k = 0; k < 29; k++) {
            in28 = w.fn(n, in28);
            in29 = w.fn(n, in29);
            last = w.pi(n, last);
        }
        due("VARIABLE 28 below 29 binders", x.part(in28, 5), 0);
        due("VARIABLE 29 below 29 binders", x.part(in29, 5), 1);
        due("VARIABLE 59 below 29 binders", x.part(last, 5), 31);
        due("the first is typed", x.type(in28) >= 0, true);
        due("the second is not", x.type(in29), -2);
    }
}
