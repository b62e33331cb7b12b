import java.util.ArrayList;
import java.util.Arrays;
import java.util.List;

/**
 * A TypeKernel that is called 512 times at most, as what later calls answer is free. It keeps its calls, so
 * that new objects can be brought to the same state: on these the state is read, however much that is.
 */
final class Counted {
    static final int MOST_CALLS = 512;
    static final String[] METHODS = {"level", "atMost", "value", "sort", "variable", "name", "term", "let",
        "type", "normal", "steps", "same", "declare", "part", "levelPart", "declared", "told", "clear"};
    private static final int PART = 13, LEVEL_PART = 14, DECLARED = 15, TOLD = 16;

    private final TypeKernel kernel = new TypeKernel();
    private final List<int[]> calls = new ArrayList<>();
    private int[] knownState;
    private int knownBehind = -1;

    /** The answer of a method that is told by its place among METHODS; a boolean counts 1 or 0. */
    static int answer(TypeKernel x, int method, int... a) {
        switch (method) {
            case 0: return x.level(a[0], a[1], a[2]);
            case 1: return x.atMost(a[0], a[1]) ? 1 : 0;
            case 2: return x.value(a[0], a[1], a[2], a[3]);
            case 3: return x.sort(a[0]);
            case 4: return x.variable(a[0]);
            case 5: return x.name(a[0], a[1], a[2]);
            case 6: return x.term(a[0], a[1], a[2]);
            case 7: return x.let(a[0], a[1], a[2]);
            case 8: return x.type(a[0]);
            case 9: return x.normal(a[0]);
            case 10: return x.steps(a[0]);
            case 11: return x.same(a[0], a[1]);
            case 12: return x.declare(a[0], a[1], a[2]);
            case 13: return x.part(a[0], a[1]);
            case 14: return x.levelPart(a[0], a[1]);
            case 15: return x.declared(a[0], a[1]);
            case 16: return x.told(a[0]);
            default: x.clear(); return 0;
        }
    }

    /** Calls a method that is told by its place among METHODS. */
    int ask(int method, int... a) {
        if (calls.size() >= MOST_CALLS) throw new IllegalStateException("a test calls one object more than 512 times");
        int[] call = new int[1 + a.length];
        call[0] = method;
        System.arraycopy(a, 0, call, 1, a.length);
        calls.add(call);
        return answer(kernel, method, a);
    }

    int level(int kind, int a, int b) {
        return ask(0, kind, a, b);
    }

    boolean atMost(int a, int b) {
        return ask(1, a, b) == 1;
    }

    int value(int level, int p, int q, int r) {
        return ask(2, level, p, q, r);
    }

    int sort(int level) {
        return ask(3, level);
    }

    int variable(int i) {
        return ask(4, i);
    }

    int name(int c, int first, int second) {
        return ask(5, c, first, second);
    }

    int term(int kind, int a, int b) {
        return ask(6, kind, a, b);
    }

    int let(int type, int v, int b) {
        return ask(7, type, v, b);
    }

    int type(int term) {
        return ask(8, term);
    }

    int normal(int term) {
        return ask(9, term);
    }

    int steps(int term) {
        return ask(10, term);
    }

    int same(int a, int b) {
        return ask(11, a, b);
    }

    int declare(int parameters, int type, int v) {
        return ask(12, parameters, type, v);
    }

    int part(int term, int what) {
        return ask(13, term, what);
    }

    int levelPart(int level, int what) {
        return ask(14, level, what);
    }

    int declared(int name, int what) {
        return ask(15, name, what);
    }

    int told(int what) {
        return ask(16, what);
    }

    void clear() {
        ask(17);
    }

    /** How many calls are still free. */
    int callsLeft() {
        return MOST_CALLS - calls.size();
    }

    /** A new object that has had the same calls. */
    private TypeKernel twin() {
        TypeKernel x = new TypeKernel();
        for (int[] call : calls) {
            try {
                answer(x, call[0], Arrays.copyOfRange(call, 1, call.length));
            } catch (RuntimeException e) {
                // It was refused here as well, and the test has looked at that.
            }
        }
        return x;
    }

    private final class Reader {
        private TypeKernel twin;
        private int used = MOST_CALLS;

        int read(int method, int... a) {
            if (used >= MOST_CALLS) {
                twin = twin();
                used = calls.size();
            }
            used++;
            return answer(twin, method, a);
        }
    }

    /** All that is told of levels, terms and names. */
    int[] state() {
        if (knownBehind == calls.size()) return knownState;
        if (callsLeft() < 1) throw new IllegalStateException("no call is left to read the state with");
        Reader reader = new Reader();
        int levels = reader.read(TOLD, 0), terms = reader.read(TOLD, 1), names = reader.read(TOLD, 2);
        int[] state = new int[3 + 4 * levels + 6 * terms + 3 * names];
        int n = 0;
        state[n++] = levels;
        state[n++] = terms;
        state[n++] = names;
        for (int l = 0; l < levels; l++) for (int what = 0; what < 4; what++) state[n++] = reader.read(LEVEL_PART, l, what);
        for (int t = 0; t < terms; t++) for (int what = 0; what < 6; what++) state[n++] = reader.read(PART, t, what);
        for (int c = 0; c < names; c++) for (int what = 0; what < 3; what++) state[n++] = reader.read(DECLARED, c, what);
        knownState = state;
        knownBehind = calls.size();
        return state;
    }
}
