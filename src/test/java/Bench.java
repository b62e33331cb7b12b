import java.util.Arrays;

/** What tests check with: what is due, what is refused, and that it changed nothing. */
abstract class Bench {
    static final int NONE = TypeKernel.NONE, OUT = TypeKernel.OUT;
    static final int ZERO = TypeKernel.ZERO, UP = TypeKernel.UP, MAX = TypeKernel.MAX, IMAX = TypeKernel.IMAX,
        PARAMETER = TypeKernel.PARAMETER;
    static final int SORT = TypeKernel.SORT, VARIABLE = TypeKernel.VARIABLE, NAME = TypeKernel.NAME,
        PI = TypeKernel.PI, LAMBDA = TypeKernel.LAMBDA, APPLY = TypeKernel.APPLY, LET = TypeKernel.LET;
    /** The least and the greatest number that a call can be given. */
    static final int LEAST = Integer.MIN_VALUE, GREATEST = Integer.MAX_VALUE;
    static final Class<?> ARGUMENT = IllegalArgumentException.class, INDEX = IndexOutOfBoundsException.class,
        TOO_MANY = UnsupportedOperationException.class;
    private static int passed, failed;

    interface Call {
        void run();
    }

    interface Question {
        int ask();
    }

    static void due(String what, long got, long want) {
        if (got == want) {
            passed++;
            return;
        }
        failed++;
        System.out.println(what + " answered " + got + ", due is " + want);
    }

    static void due(String what, boolean got, boolean want) {
        due(what, got ? 1 : 0, want ? 1 : 0);
    }

    /** The call throws just this, and all is as it was. */
    static void refused(String what, Counted x, Class<?> wanted, Call call) {
        int[] before = x.state();
        Class<?> got = null;
        try {
            call.run();
        } catch (RuntimeException e) {
            got = e.getClass();
        }
        due(what + " throws " + wanted.getSimpleName() + ", not " + (got == null ? "nothing" : got.getSimpleName()),
            got == wanted, true);
        due(what + " leaves all as it was", Arrays.equals(before, x.state()), true);
    }

    /** The call has this answer, and all is as it was. */
    static void unchanged(String what, Counted x, int want, Question question) {
        int[] before = x.state();
        due(what, question.ask(), want);
        due(what + " leaves all as it was", Arrays.equals(before, x.state()), true);
    }

    static void parts(Counted x, int term, int... want) {
        for (int k = 0; k < want.length; k++) due("part(" + term + ", " + k + ")", x.part(term, k), want[k]);
    }

    static void levelParts(Counted x, int level, int... want) {
        for (int k = 0; k < want.length; k++) due("levelPart(" + level + ", " + k + ")", x.levelPart(level, k), want[k]);
    }

    /** Ends the test. */
    static void finish() {
        System.out.println(passed + " passed, " + failed + " failed");
        if (failed > 0) System.exit(1);
    }
}
