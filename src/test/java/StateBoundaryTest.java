import java.util.Arrays;

/**
 * The boundary cases of an object's state: promises 1, 18 and 19, the numbers, and answers for which there is no room
 * (promises 10 and 11). A remark at each test names its promise and its sentence.
 */
public final class StateBoundaryTest extends Bench {
    public static void main(String[] args) {
        newObject();
        nothingIsThere();
        objectsOfTheirOwn();
        told();
        toldWhenFull();
        clearOfNew();
        clearOfSome();
        clearOfFull();
        nothingStaysBehindClear();
        numbersOfLevels();
        numbersOfTerms();
        numbersOfNames();
        numbersAreGivenOnce();
        lastLevelOfAnAnswer();
        noLevelForAnAnswer();
        levelsOfARefusedAnswer();
        eachPlaceOfALevel();
        lastTermOfAnAnswer();
        noTermForAnAnswer();
        termsOfARefusedAnswer();
        noRoomIsNeeded();
        lastOf512Calls();
        finish();
    }

    // Promise 1: "Level ZERO alone is there, as number 0: no terms, and no names."
    private static void newObject() {
        Counted x = new Counted();
        unchanged("levels", x, 1, () -> x.told(0));
        unchanged("terms", x, 0, () -> x.told(1));
        unchanged("names", x, 0, () -> x.told(2));
        levelParts(x, 0, ZERO, NONE, NONE, 1);
        due("ZERO's value", x.value(0, 1000, 1000, 1000), 0);
        due("ZERO at most ZERO", x.atMost(0, 0), true);
        due("the first level", x.level(UP, 0, 0), 1);
        due("the first term", x.sort(0), 0);
        due("the first name", x.declare(0, 0, NONE), 0);
    }

    // Promise 1: "no terms, and no names": every call that wants one is refused.
    private static void nothingIsThere() {
        Counted x = new Counted();
        refused("levelPart(1, 0)", x, INDEX, () -> x.levelPart(1, 0));
        refused("sort(1)", x, INDEX, () -> x.sort(1));
        refused("value(1, ..)", x, INDEX, () -> x.value(1, 0, 0, 0));
        refused("atMost(0, 1)", x, INDEX, () -> x.atMost(0, 1));
        refused("name(0, 0, 0)", x, INDEX, () -> x.name(0, 0, 0));
        refused("term(PI, 0, 0)", x, INDEX, () -> x.term(PI, 0, 0));
        refused("let(0, 0, 0)", x, INDEX, () -> x.let(0, 0, 0));
        refused("type(0)", x, INDEX, () -> x.type(0));
        refused("normal(0)", x, INDEX, () -> x.normal(0));
        refused("steps(0)", x, INDEX, () -> x.steps(0));
        refused("same(0, 0)", x, INDEX, () -> x.same(0, 0));
        refused("declare(0, 0, NONE)", x, INDEX, () -> x.declare(0, 0, NONE));
        refused("part(0, 0)", x, INDEX, () -> x.part(0, 0));
        refused("declared(0, 0)", x, INDEX, () -> x.declared(0, 0));
    }

    // Promise 1: a new object is new whatever others have.
    private static void objectsOfTheirOwn() {
        World w = new World();
        Counted x = new Counted();
        due("levels", x.told(0), 1);
        due("terms", x.told(1), 0);
        due("names", x.told(2), 0);
        x.level(PARAMETER, 2, 0);
        x.variable(5);
        due("the other's level 1", w.x.levelPart(1, 0), UP);
        due("the other's term 0", w.x.part(0, 0), SORT);
        x.clear();
        due("the other's levels", w.x.told(0), 4);
        due("the other's names", w.x.told(2), 3);
    }

    // Promise 18: "Levels (what = 0), terms (1), names (2); NONE for another what."
    private static void told() {
        World w = new World();
        Counted x = w.x;
        unchanged("levels", x, 4, () -> x.told(0));
        unchanged("terms", x, 10, () -> x.told(1));
        unchanged("names", x, 3, () -> x.told(2));
        for (int what : new int[] {LEAST, -1, 3, 4, GREATEST}) unchanged("told(" + what + ")", x, NONE, () -> x.told(what));
        x.level(UP, w.one, 0);
        due("one level more", x.told(0), 5);
        x.variable(3);
        due("one term more", x.told(1), 11);
        x.declare(0, w.n, NONE);
        due("one name more", x.told(2), 4);
    }

    // Promise 18, where there are as many as there may be: 300, 1500 and 40.
    private static void toldWhenFull() {
        Counted levels = new Counted();
        World.fillLevels(levels, 300);
        due("levels", levels.told(0), 300);
        World w = new World();
        w.fill(1500);
        due("terms", w.x.told(1), 1500);
        for (int c = 3; c < 40; c++) w.x.declare(0, w.n, NONE);
        due("names", w.x.told(2), 40);
        due("NONE", w.x.told(3), NONE);
    }

    // Promise 19: "All goes but level ZERO": where nothing else is.
    private static void clearOfNew() {
        Counted x = new Counted();
        int[] before = x.state();
        x.clear();
        due("nothing has changed", Arrays.equals(before, x.state()), true);
        x.clear();
        due("nor has it then", Arrays.equals(before, x.state()), true);
    }

    // Promise 19: "All goes but level ZERO": levels, terms and names that were there are refused.
    private static void clearOfSome() {
        World w = new World();
        Counted x = w.x;
        x.clear();
        due("as new", Arrays.equals(new Counted().state(), x.state()), true);
        levelParts(x, 0, ZERO, NONE, NONE, 1);
        refused("level 1", x, INDEX, () -> x.levelPart(1, 0));
        refused("SORT of level 1", x, INDEX, () -> x.sort(1));
        refused("term 0", x, INDEX, () -> x.part(0, 0));
        refused("type of term 0", x, INDEX, () -> x.type(0));
        refused("name 0", x, INDEX, () -> x.declared(0, 0));
        refused("NAME 0", x, INDEX, () -> x.name(0, 0, 0));
        due("the first level", x.level(PARAMETER, 2, 0), 1);
        due("the first term", x.variable(7), 0);
        due("the next term", x.sort(1), 1);
        due("the first name", x.declare(0, x.sort(0), NONE), 0);
    }

    // Promise 19, where there are as many as there may be: there is room for as many again.
    private static void clearOfFull() {
        Counted levels = new Counted();
        World.fillLevels(levels, 300);
        levels.clear();
        due("as new", Arrays.equals(new Counted().state(), levels.state()), true);
        World.fillLevels(levels, 150);
        due("levels again", levels.told(0), 150);
        World w = new World();
        w.fill(1500);
        w.x.clear();
        due("as new", Arrays.equals(new Counted().state(), w.x.state()), true);
        due("a term again", w.x.variable(9), 0);
        Counted names = new Counted();
        for (int times = 0; times < 3; times++) {
            int prop = names.sort(0);
            for (int c = 0; c < 40; c++) due("a name", names.declare(0, prop, NONE), c);
            names.clear();
        }
    }

    // Promise 19: what is made behind it is as in a new object, and no value, type or number of before is left.
    private static void nothingStaysBehindClear() {
        World w = new World();
        Counted x = w.x;
        int c = x.declare(0, w.n, w.z);
        due("a name with a value", x.steps(x.name(c, 0, 0)), 1);
        x.clear();
        Counted y = new Counted();
        for (Counted k : new Counted[] {x, y}) {
            int prop = k.sort(0);
            for (int i = 0; i <= c; i++) k.declare(0, prop, NONE);
            int name = k.name(c, 0, 0);
            due("a name of that number without a value", k.steps(name), 0);
            due("its type", k.type(name), prop);
            k.normal(k.let(prop, name, k.term(APPLY, k.variable(0), k.variable(1))));
        }
        due("both have the same", Arrays.equals(x.state(), y.state()), true);
    }

    // Promises 10 and 11: "get numbers 0, 1, .. as they come, with all their parts, which come before them, in the order told above".
    private static void numbersOfLevels() {
        Counted x = new Counted();
        int p = x.level(PARAMETER, 0, 0), q = x.level(PARAMETER, 1, 0);
        int sortP = x.sort(p), sortQ = x.sort(q), prop = x.sort(0);
        int t = x.term(PI, x.term(PI, sortQ, sortP), prop), levels = x.told(0), terms = x.told(1);
        due("the type's number", x.type(t), terms);
        parts(x, terms, SORT, levels + 4);
        levelParts(x, levels, UP, q, NONE, 2);
        levelParts(x, levels + 1, UP, p, NONE, 2);
        levelParts(x, levels + 2, IMAX, levels, levels + 1, 5);
        levelParts(x, levels + 3, UP, 0, NONE, 2);
        levelParts(x, levels + 4, IMAX, levels + 2, levels + 3, 8);
        due("levels", x.told(0), levels + 5);
        due("terms", x.told(1), terms + 1);
    }

    // Promises 10 and 11: "in the order told above (for SORT its level, for NAME its levels, before it)".
    private static void numbersOfTerms() {
        World w = new World();
        Counted x = w.x;
        int body = w.pi(w.app(w.v0, w.v0), w.fn(w.app(w.v1, w.n), w.app(w.v2, w.prop)));
        int let = x.let(w.n, w.set, body), t = x.told(1);
        due("the normal form's number", x.normal(let), t + 4);
        parts(x, t, APPLY, w.set, w.set);
        parts(x, t + 1, APPLY, w.set, w.n);
        parts(x, t + 2, APPLY, w.set, w.prop);
        parts(x, t + 3, LAMBDA, t + 1, t + 2);
        parts(x, t + 4, PI, t, t + 3);
        due("terms", x.told(1), t + 5);
        int c = x.declare(2, w.set, x.name(0, w.up(w.p1, 1), w.up(w.p0, 1)));
        int levels = x.told(0), name = x.name(c, w.max(w.p0, w.p1), w.imax(w.p0, w.p1)), next = x.told(1);
        due("a NAME by a step", x.normal(name), next);
        parts(x, next, NAME, 0, levels + 2, levels + 3);
        levelParts(x, levels + 2, UP, levels + 1);
        levelParts(x, levels + 3, UP, levels);
        due("levels", x.told(0), levels + 4);
    }

    // Promise 14: names get numbers "as they come"; no refused one has any.
    private static void numbersOfNames() {
        World w = new World();
        due("the next", w.x.declare(0, w.n, NONE), 3);
        due("a refused one", w.x.declare(0, w.z, NONE), -5);
        due("the next", w.x.declare(0, w.n, NONE), 4);
        refused("another refused one", w.x, ARGUMENT, () -> w.x.declare(3, w.n, NONE));
        due("the next", w.x.declare(0, w.n, w.z), 5);
    }

    // Promises 10 and 11: "Levels and terms that are made alike are one, and have one number", in answers as well.
    private static void numbersAreGivenOnce() {
        World w = new World();
        Counted x = w.x;
        int twice = x.let(w.n, w.app(w.z, w.z), w.pi(w.app(w.s, w.v0), w.app(w.s, w.v1))), t = x.told(1);
        int v = x.part(twice, 2);
        due("a part that is there twice", x.normal(twice), t + 1);
        parts(x, t, APPLY, w.s, v);
        parts(x, t + 1, PI, t, t);
        unchanged("its part is asked for", x, t, () -> w.app(w.s, v));
        unchanged("it is asked for", x, t + 1, () -> w.pi(t, t));
        int up = x.part(x.type(w.sortP), 1);
        unchanged("a level of an answer is asked for", x, up, () -> w.up(w.p0, 1));
        unchanged("a SORT of an answer is asked for", x, t + 2, () -> x.sort(up));
    }

    /** A world with so many levels, and SORTs of levels whose UP is not there. */
    private static World withLevels(int most) {
        World w = new World();
        World.fillLevels(w.x, most);
        return w;
    }

    // Promise 10: "UnsupportedOperation: there would be more than there may be (300 levels": the last that an answer may have.
    private static void lastLevelOfAnAnswer() {
        World w = withLevels(299);
        int sort = w.x.sort(40);
        int type = w.x.type(sort);
        parts(w.x, type, SORT, 299);
        levelParts(w.x, 299, UP, 40);
        due("levels", w.x.told(0), 300);
        unchanged("again", w.x, type, () -> w.x.type(sort));
        World y = withLevels(298);
        int pi = y.pi(y.x.sort(40), y.prop);
        due("an answer with two more", y.x.part(y.x.type(pi), 1), 299);
        due("levels", y.x.told(0), 300);
    }

    // Promises 10 and 11: "UnsupportedOperation: .. (300 levels" for answers; "A call that throws changes nothing."
    private static void noLevelForAnAnswer() {
        World w = withLevels(299);
        Counted x = w.x;
        int c = x.declare(1, x.sort(w.p0), NONE);
        int pi = w.pi(x.sort(40), w.prop), fn = w.fn(w.set, x.sort(41));
        refused("a type with two levels more, where there is room for one", x, TOO_MANY, () -> x.type(pi));
        due("one more is given", x.part(x.type(fn), 0), PI);
        due("levels", x.told(0), 300);
        refused("a type with one more", x, TOO_MANY, () -> x.type(pi));
        refused("a SORT's type", x, TOO_MANY, () -> x.type(x.part(pi, 1)));
        due("a type whose levels are there", x.type(x.name(c, 299, 0)) >= 0, true);
        due("a reason", x.type(w.app(w.s, w.s)), -4);
    }

    // Promise 11: "UnsupportedOperation: .. (300 levels": a normal form whose parts had numbers before there was no room.
    private static void levelsOfARefusedAnswer() {
        World w = withLevels(295);
        Counted x = w.x;
        int value = x.sort(w.up(w.max(w.p0, w.p1), 1)), c = x.declare(2, x.type(value), value);
        w.up(50, 1);
        w.up(51, 1);
        due("levels", x.told(0), 299);
        int name = x.name(c, 40, 40), terms = x.told(1);
        int t = x.let(w.n, w.z, w.pi(w.app(w.v0, w.v0), name));
        refused("a normal form with two levels more, behind a part", x, TOO_MANY, () -> x.normal(t));
        due("steps", x.steps(t), 2);
        due("same", x.same(t, t), 1);
        due("the part is asked for, and is new", w.app(w.z, w.z) >= terms, true);
        due("the next level", x.level(UP, 40, 0), 299);
        refused("a normal form with two levels more, where there is no room", x, TOO_MANY, () -> x.normal(t));
        refused("a normal form of a NAME", x, TOO_MANY, () -> x.normal(name));
        due("a normal form whose levels are there", x.normal(x.name(c, w.p0, w.p1)), value);
    }

    // Promises 10 and 11: "UnsupportedOperation: .. (300 levels": wherever in an answer the level is that has no room.
    private static void eachPlaceOfALevel() {
        World w = withLevels(296);
        Counted x = w.x;
        int up = w.up(w.p0, 1), sort = x.sort(up), type = x.type(sort);
        int c = x.declare(1, type, sort);
        int first = x.declare(2, w.set, x.name(0, up, w.p1)), second = x.declare(2, w.set, x.name(0, w.p1, up));
        int let = x.declare(1, x.let(w.set, w.n, w.pi(w.v0, sort)), NONE);
        int letA = x.declare(1, x.let(type, sort, w.n), NONE);
        w.up(50, 1);
        w.up(51, 1);
        due("levels", x.told(0), 300);
        int name = x.name(c, 40, 0);
        refused("a SORT's level", x, TOO_MANY, () -> x.normal(name));
        int inFirst = x.name(first, 40, 0), inSecond = x.name(second, 40, 0);
        refused("a NAME's first level", x, TOO_MANY, () -> x.normal(inFirst));
        refused("a NAME's second level", x, TOO_MANY, () -> x.normal(inSecond));
        for (int kind = PI; kind <= APPLY; kind++) {
            int a = x.term(kind, name, w.n), b = x.term(kind, w.n, name);
            refused("in the first part, kind " + kind, x, TOO_MANY, () -> x.normal(a));
            refused("in the second part, kind " + kind, x, TOO_MANY, () -> x.normal(b));
        }
        int inB = x.name(let, 40, 0), inA = x.name(letA, 40, 0);
        refused("in b of a LET", x, TOO_MANY, () -> x.type(inB));
        refused("in A and v of a LET", x, TOO_MANY, () -> x.type(inA));
        due("a level that is there, in b of a LET", x.part(x.type(x.name(let, w.p0, 0)), 0), LET);
    }

    // Promises 10 and 11: "UnsupportedOperation: .. 1500 terms": the last that an answer may have.
    private static void lastTermOfAnAnswer() {
        World w = new World();
        int let = w.x.let(w.z, w.s, w.app(w.v0, w.v0));
        w.fill(1499);
        due("the 1500th is a normal form", w.x.normal(let), 1499);
        parts(w.x, 1499, APPLY, w.s, w.s);
        due("terms", w.x.told(1), 1500);
        unchanged("again", w.x, 1499, () -> w.x.normal(let));
        World y = new World();
        y.fill(1499);
        due("the 1500th is a type", y.x.type(y.sortP), 1499);
        levelParts(y.x, y.x.part(1499, 1), UP, y.p0);
        World two = new World();
        int both = two.x.let(two.z, two.s, two.pi(two.app(two.v0, two.v0), two.n));
        two.fill(1498);
        due("the last two are a normal form and its part", two.x.normal(both), 1499);
        parts(two.x, 1499, PI, 1498, two.n);
    }

    // Promises 10 and 11: "UnsupportedOperation: .. 1500 terms" for answers; "A call that throws changes nothing."
    private static void noTermForAnAnswer() {
        World w = new World();
        Counted x = w.x;
        int let = x.let(w.z, w.s, w.app(w.v0, w.v0)), there = x.let(w.z, w.n, w.pi(w.v0, w.v1)), fn = w.fn(w.n, w.z);
        w.fill(1500);
        refused("a normal form", x, TOO_MANY, () -> x.normal(let));
        refused("a type, with a level that is new", x, TOO_MANY, () -> x.type(w.sortP));
        refused("a type, with no level that is new", x, TOO_MANY, () -> x.type(w.set));
        unchanged("a normal form that is there", x, w.nn, () -> x.normal(there));
        unchanged("a type that is there", x, w.nn, () -> x.type(fn));
        unchanged("a reason", x, -2, () -> x.type(w.v0));
    }

    // Promises 10 and 11: "A call that throws changes nothing": parts that had numbers before there was no room.
    private static void termsOfARefusedAnswer() {
        World w = new World();
        Counted x = w.x;
        int let = x.let(w.z, w.s, w.pi(w.app(w.v0, w.v0), w.n));
        w.fill(1499);
        refused("a normal form with two terms more, where there is room for one", x, TOO_MANY, () -> x.normal(let));
        due("its part is asked for, and is new", w.app(w.s, w.s), 1499);
        refused("a normal form with one term more, where there is no room", x, TOO_MANY, () -> x.normal(let));
    }

    // Promises 12, 13, 14: they name no UnsupportedOperation for terms, as their answers have no numbers of terms.
    private static void noRoomIsNeeded() {
        World w = new World();
        Counted x = w.x;
        int let = x.let(w.z, w.s, w.app(w.v0, w.v0)), other = w.app(w.fn(w.z, w.app(w.v0, w.v0)), w.s);
        int omega = w.fn(w.n, w.app(w.v0, w.v0)), out = w.app(omega, omega);
        w.fill(1500);
        unchanged("steps", x, 1, () -> x.steps(let));
        unchanged("same", x, 1, () -> x.same(let, other));
        unchanged("same of others", x, 0, () -> x.same(let, w.s));
        unchanged("OUT", x, OUT, () -> x.normal(out));
        unchanged("a refused name", x, -9, () -> x.declare(0, w.sortP, NONE));
        due("a name", x.declare(1, w.sortP, NONE), 3);
        due("a name with a value", x.declare(0, w.n, w.z), 4);
        World y = withLevels(300);
        int sort = y.x.sort(60);
        due("a name whose type's level has no room", y.x.declare(2, sort, NONE), 3);
        unchanged("steps", y.x, 0, () -> y.x.steps(sort));
        unchanged("same", y.x, 1, () -> y.x.same(sort, sort));
    }

    // Every promise: "An object is used for at most 512 calls after it has been made".
    private static void lastOf512Calls() {
        World w = new World();
        Counted x = w.x;
        int t = w.app(w.fn(w.n, w.app(w.s, w.v0)), w.z), done = x.normal(t);
        for (int k = 0; x.callsLeft() > 12; k++) {
            due("a type", x.type(t), w.n);
            due("a normal form", x.normal(t), done);
            due("same", x.same(t, done), 1);
            if (k % 20 == 0) due("a name", x.declare(0, w.n, t), 3 + k / 20);
        }
        due("a level", x.level(PARAMETER, 2, 0), 4);
        while (x.callsLeft() > 1) due("a term", x.part(done, 4), 3);
        due("the 512th call", x.type(t), w.n);
        due("no call is left", x.callsLeft(), 0);
    }
}
