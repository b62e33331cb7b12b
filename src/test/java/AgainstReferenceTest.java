import java.util.Arrays;
import java.util.Random;
import java.util.TreeMap;

/**
 * Promises 1 to 19: runs of calls that are drawn with fixed seeds, half of them aimed at terms that have a type, asked
 * of TypeKernel and of Reference alike: every answer and every exception has to be the same, and in
 * the end all that is told of levels, terms and names. In one of ten runs there is little room left.
 */
public final class AgainstReferenceTest {
    // The calls that are kept free are those that the state is read with in the end; a draw makes at most 40.
    private static final int RUNS = 1600, KEPT_FREE = 120, A_DRAW = 40;

    private final Random random;
    private final int run;
    private final Counted kernel = new Counted();
    private final Reference reference = new Reference();
    private final TreeMap<String, Integer> seen;
    private int wrong;

    private AgainstReferenceTest(int run, TreeMap<String, Integer> seen) {
        this.run = run;
        this.seen = seen;
        random = new Random(run);
    }

    public static void main(String[] args) {
        TreeMap<String, Integer> seen = new TreeMap<>();
        int failed = 0;
        for (int run = 0; run < RUNS; run++) {
            if (new AgainstReferenceTest(run, seen).go() > 0) failed++;
        }
        if (args.length > 0) System.out.println(seen);
        for (String must : new String[] {"type -2", "type -3", "type -4", "type -5", "type -6", "type -7", "type +",
            "declare -2", "declare -3", "declare -4", "declare -5", "declare -6", "declare -7", "declare -8", "declare -9",
            "declare +", "normal -6", "normal +", "same -6", "same 0", "same 1", "type UnsupportedOperationException",
            "normal UnsupportedOperationException", "declare UnsupportedOperationException"}) {
            if (!seen.containsKey(must)) {
                failed++;
                System.out.println("the runs never met " + must);
            }
        }
        System.out.println(RUNS - failed + " passed, " + failed + " failed");
        if (failed > 0) System.exit(1);
    }

    private int go() {
        boolean crowded = run % 10 == 4;
        if (run % 3 != 0 || crowded) prelude();
        if (crowded) crowd(run / 10 % 3);
        while (wrong == 0 && kernel.callsLeft() >= KEPT_FREE + A_DRAW) draw();
        if (wrong == 0 && !Arrays.equals(kernel.state(), stateOf(reference))) {
            wrong++;
            System.out.println("run " + run + ": what is told of levels, terms and names is not what is due");
        }
        return wrong;
    }

    /** Leaves little room for levels, terms or names. */
    private void crowd(int of) {
        int room = below(8);
        if (of == 0) {
            for (int k = 0; k < 288 && reference.told(0) < 299 - room; k++) call(0, 2 + k % 2, k / 2 % 4, k / 8);
        } else if (of == 1) {
            int many = manyTerms();
            for (int k = 0; k < 40 && reference.told(1) < 1400; k++) {
                call(9, call(7, k % 4, call(6, 5, k % 4, call(4, 10 + k / 4 * 8 % 50)), many));
            }
            for (int k = 0; k < 144 && reference.told(1) < 1499 - room; k++) call(6, 3, k % 12, k / 12);
        } else {
            while (reference.told(2) < 40 - room) call(12, 0, 0, -1);
        }
    }

    /** A LET whose normal form has some 90 parts that are new for each value of VARIABLE 0. */
    private int manyTerms() {
        int v = call(4, 0), body = call(6, 5, call(4, 7), 0);
        for (int k = 0; k < 9; k++) v = call(6, 5, 0, v);
        for (int k = 6; k >= 0; k--) body = call(6, 5, call(4, k), call(6, 4, 0, body));
        return call(7, 0, v, body);
    }

    private static int ask(Reference x, int method, int[] a) {
        switch (method) {
            case 0: return x.level(a[0], a[1], a[2]);
            case 1: return x.atMost(a[0], a[1]) ? 1 : 0;
            case 2: return x.value(a[0], a[1], a[2], a[3]);
            case 3: return x.sort(a[0]);
            case 4: return x.variable(a[0]);
            case 5: return x.name(a[0], a[1], a[2]);
            case 6: return x.term(a[0], a[1], a[2]);
            case 7: return x.let(a[0], a[1], a[2]);
            case 8: return x.type(a[0]);
            case 9: return x.normal(a[0]);
            case 10: return x.steps(a[0]);
            case 11: return x.same(a[0], a[1]);
            case 12: return x.declare(a[0], a[1], a[2]);
            case 13: return x.part(a[0], a[1]);
            case 14: return x.levelPart(a[0], a[1]);
            case 15: return x.declared(a[0], a[1]);
            case 16: return x.told(a[0]);
            default: x.clear(); return 0;
        }
    }

    /** Asks both; the answer that is due, or NONE where it is an exception. */
    private int call(int method, int... arguments) {
        String got, due;
        int answer = Reference.NONE;
        try {
            got = String.valueOf(kernel.ask(method, arguments));
        } catch (RuntimeException e) {
            got = e.getClass().getSimpleName();
        }
        try {
            answer = ask(reference, method, arguments);
            due = String.valueOf(answer);
        } catch (RuntimeException e) {
            due = e.getClass().getSimpleName();
        }
        if (!got.equals(due)) {
            wrong++;
            System.out.println("run " + run + ": " + Counted.METHODS[method] + Arrays.toString(arguments)
                + " answered " + got + ", due is " + due);
        }
        boolean number = method == 8 || method == 9 || method == 12;
        String kind = number && answer >= 0 ? "+" : number || method >= 10 && method <= 11 ? due : "";
        if (!kind.isEmpty()) seen.merge(Counted.METHODS[method] + " " + kind, 1, Integer::sum);
        return answer;
    }

    private int below(int n) {
        return n <= 0 ? 0 : random.nextInt(n);
    }

    private int anyLevel() {
        return below(reference.told(0));
    }

    /** Any term, late ones oftener. */
    private int anyTerm() {
        int n = reference.told(1);
        return random.nextBoolean() ? below(n) : n - 1 - below(Math.min(n, 12));
    }

    /** Numbers, functions of them, a predicate, an identity for all levels, and twice a function. */
    private void prelude() {
        call(0, 1, 0, 0);
        call(0, 4, 0, 0);
        call(0, 4, 1, 0);
        int prop = call(3, 0), set = call(3, 1), sortOfP = call(3, 2);
        call(12, 0, random.nextInt(4) == 0 ? prop : set, -1);
        int n = call(5, 0, 0, 0);
        int nn = call(6, 3, n, n);
        call(12, 0, n, -1);
        call(12, 0, nn, -1);
        int v0 = call(4, 0), v1 = call(4, 1);
        int idType = call(6, 3, sortOfP, call(6, 3, v0, v1));
        int id = call(6, 4, sortOfP, call(6, 4, v0, v0));
        call(12, 1, idType, id);
        int twice = call(6, 4, nn, call(6, 4, n, call(6, 5, v1, call(6, 5, v1, v0))));
        call(12, 0, call(6, 3, nn, nn), twice);
        call(12, 0, call(6, 3, n, prop), -1);
        for (int c = 0; c < 6; c++) call(5, c, anyLevel(), anyLevel());
    }

    private void draw() {
        int what = below(100);
        if (what < 8) {
            call(0, 1 + below(4), random.nextInt(3) == 0 ? below(3) : anyLevel(), anyLevel());
        } else if (what < 22) {
            drawLeaf();
        } else if (what < 62) {
            drawTerm();
        } else if (what < 68) {
            drawDeclaration();
        } else if (what < 74) {
            drawGrowth();
        } else if (what < 95) {
            drawQuestion();
        } else if (what < 99) {
            drawNonsense();
        } else if (below(12) == 0) {
            call(17);
            if (random.nextBoolean()) prelude();
        }
    }

    private void drawLeaf() {
        int what = below(10);
        if (what < 2 || reference.told(2) == 0) {
            call(3, anyLevel());
        } else if (what < 5) {
            call(4, below(10) == 0 ? below(60) : below(4));
        } else {
            call(5, below(reference.told(2)), anyLevel(), anyLevel());
        }
    }

    private void drawTerm() {
        if (reference.told(1) == 0) return;
        boolean aimed = below(10) < 7;
        int[] parts = {0, 0, 0};
        int kind = 0;
        for (int k = 0; k < 15; k++) {
            kind = 3 + below(10) * 4 / 10;
            if (kind < 5 && below(3) == 0) kind = 5;
            for (int i = 0; i < 3; i++) parts[i] = anyTerm();
            if (!aimed) break;
            int reason = kind == 6 ? reference.reasonAgainst(6, parts) : reference.reasonAgainst(kind, parts[0], parts[1]);
            if (reason == 0 || reason == 1 && below(4) == 0) break;
        }
        int made = kind == 6 ? call(7, parts) : call(6, kind, parts[0], parts[1]);
        if (made >= 0 && below(3) == 0) call(8 + below(3), made);
    }

    private void drawDeclaration() {
        if (reference.told(1) == 0) return;
        int v = anyTerm();
        int what = below(4);
        if (what == 0) {
            call(12, below(3), anyTerm(), v);
        } else if (what == 1) {
            call(12, below(3), v, -1);
        } else {
            int type = call(8, v);
            if (type >= 0 && below(3) == 0) type = Math.max(type, call(9, type));
            if (type >= 0) call(12, 2 - below(10) / 9, type, v);
        }
    }

    private void drawQuestion() {
        int t = anyTerm();
        switch (below(10)) {
            case 0: call(1, anyLevel(), anyLevel()); break;
            case 1: call(2, anyLevel(), below(4), below(1001), below(3)); break;
            case 2: case 3: call(11, t, anyTerm()); break;
            case 4: call(13, t, below(6)); break;
            case 5: call(10, t); break;
            case 6: case 7: call(9, t); break;
            default: call(8, t); break;
        }
    }

    /** Copies of copies, and levels on levels: what comes to the bounds of sizes. */
    private void drawGrowth() {
        if (reference.told(1) == 0) return;
        if (below(3) == 0) {
            int t = call(3, anyLevel());
            for (int k = 0; k < 3 && t >= 0; k++) t = call(8, below(2) == 0 ? t : Math.max(0, call(6, 3, t, anyTerm())));
            return;
        }
        int v0 = call(4, 0), v1 = call(4, 1), some = anyTerm();
        int body = below(2) == 0 ? call(6, 5, v0, v0) : call(6, 3 + below(2), v0, call(6, 5, v1, v1));
        if (body >= 0 && below(2) == 0) body = call(6, 5, body, body);
        int made = body < 0 ? body : below(2) == 0 ? call(7, anyTerm(), some, body) : call(6, 5, call(6, 4, v0, body), some);
        if (made < 0) return;
        int normal = call(9, made);
        call(10, made);
        if (normal >= 0 && below(2) == 0) call(12, 2, normal, -1);
    }

    private int odd() {
        int[] some = {-2, -1, 0, 1, 2, 3, 4, 5, 6, 7, 40, 59, 60, 299, 300, 1000, 1001, 1500, Integer.MAX_VALUE, Integer.MIN_VALUE};
        return some[below(some.length)];
    }

    private void drawNonsense() {
        int method = below(17);
        int[] arguments = new int[4];
        for (int i = 0; i < 4; i++) arguments[i] = below(3) == 0 ? odd() : below(2) == 0 ? anyTerm() : below(6);
        call(method, arguments);
    }

    /** The same that Counted.state reads, in its order. */
    private static int[] stateOf(Reference x) {
        int levels = x.told(0), terms = x.told(1), names = x.told(2);
        int[] state = new int[3 + 4 * levels + 6 * terms + 3 * names];
        int n = 0;
        state[n++] = levels;
        state[n++] = terms;
        state[n++] = names;
        for (int l = 0; l < levels; l++) for (int what = 0; what < 4; what++) state[n++] = x.levelPart(l, what);
        for (int t = 0; t < terms; t++) for (int what = 0; what < 6; what++) state[n++] = x.part(t, what);
        for (int c = 0; c < names; c++) for (int what = 0; what < 3; what++) state[n++] = x.declared(c, what);
        return state;
    }
}
