/** An object with N of SORT 1, z of N, s of N to N, and short ways to write levels and terms. */
final class World {
    final Counted x = new Counted();
    final int one = up(0, 1), p0 = x.level(TypeKernel.PARAMETER, 0, 0), p1 = x.level(TypeKernel.PARAMETER, 1, 0);
    final int prop = x.sort(0), set = x.sort(one), sortP = x.sort(p0);
    final int n = axiom(0, set), z = axiom(0, n), nn = pi(n, n), s = axiom(0, nn);
    final int v0 = x.variable(0), v1 = x.variable(1), v2 = x.variable(2);

    int up(int level, int times) {
        int l = level;
        for (int k = 0; k < times; k++) l = x.level(TypeKernel.UP, l, 0);
        return l;
    }

    int max(int a, int b) {
        return x.level(TypeKernel.MAX, a, b);
    }

    int imax(int a, int b) {
        return x.level(TypeKernel.IMAX, a, b);
    }

    int axiom(int parameters, int type) {
        return x.name(x.declare(parameters, type, TypeKernel.NONE), 0, 0);
    }

    int define(int parameters, int type, int v) {
        return x.name(x.declare(parameters, type, v), 0, 0);
    }

    int pi(int a, int b) {
        return x.term(TypeKernel.PI, a, b);
    }

    int fn(int a, int b) {
        return x.term(TypeKernel.LAMBDA, a, b);
    }

    int app(int f, int a) {
        return x.term(TypeKernel.APPLY, f, a);
    }

    int app(int f, int a, int b) {
        return app(app(f, a), b);
    }

    /** A name that takes so many steps to its end: names that stand for names. */
    int chain(int type, int end, int steps) {
        int t = end;
        for (int k = 0; k < steps; k++) t = define(0, type, t);
        return t;
    }

    /** f (f (.. (f end))), so many times. */
    int times(int f, int count, int end) {
        int t = end;
        for (int k = 0; k < count; k++) t = app(f, t);
        return t;
    }

    /** A term of N that is closed and normal, of an odd size. */
    int ofSize(int size) {
        return times(s, (size - 1) / 2, z);
    }

    /** VARIABLE 0 with itself for an argument, so often that it is there this many times. */
    int copies(int count) {
        int t = v0;
        for (int k = 1; k < count; k++) t = app(t, v0);
        return t;
    }

    /**
     * LET z v (v (LAMBDA z (v (LAMBDA z ..)))), where v is head (head (.. (VARIABLE 0))). As each v is below
     * another number of binders, its normal form has more than 80 parts, all of them new.
     */
    int manyTerms(int head) {
        int body = app(x.variable(7), set);
        for (int k = 6; k >= 0; k--) body = app(x.variable(k), fn(z, body));
        return x.let(z, times(head, 9, v0), body);
    }

    /** Makes two levels of each two, from the first ones on, until there are so many; PARAMETER 2 is in none. */
    static void fillLevels(Counted x, int most) {
        x.level(TypeKernel.UP, 0, 0);
        x.level(TypeKernel.PARAMETER, 0, 0);
        x.level(TypeKernel.PARAMETER, 1, 0);
        int count = 4;
        for (int b = 0; b < 36 && count < most; b++) {
            for (int a = 0; a < 4 && count < most; a++) {
                for (int kind = TypeKernel.MAX; kind <= TypeKernel.IMAX && count < most; kind++) {
                    Bench.due("a new level", x.level(kind, a, b), count++);
                }
            }
        }
        for (int a = 4; count < most; a++) Bench.due("a new level", x.level(TypeKernel.UP, a, 0), count++);
    }

    /** Makes terms until there are so many (1400 or more), with some 150 calls; a normal form makes many at once. */
    void fill(int most) {
        int many = manyTerms(s), few = times(s, 14, v0), count = x.told(1);
        for (int head : new int[] {z, n, set, prop}) {
            for (int i = 10; i < 60 && most - count > 20; i += 8) {
                x.normal(x.let(z, app(head, x.variable(i)), most - count > 120 ? many : few));
                count = x.told(1);
            }
        }
        for (int k = 0; k < 144 && count < most; k++) {
            if (pi(k % 12, k / 12) == count) count++;
        }
    }
}
