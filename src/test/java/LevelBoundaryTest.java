/** The boundary cases of levels: promises 2, 3, 4 and 16. A remark at each test names its promise and its sentence. */
public final class LevelBoundaryTest extends Bench {
    public static void main(String[] args) {
        kinds();
        whatIsNoParameter();
        whereSecondCounts();
        noSuchLevel();
        madeAlike();
        largestAsked();
        largeOnesThatAreThere();
        mostLevels();
        firstOfSeveral();
        atMostItself();
        atMostAtEachEdge();
        atMostOfLargestLevels();
        atMostOfAllSmallLevels();
        atMostOfNoLevel();
        valueBounds();
        valueOfImax();
        largestValue();
        valueFirstOfSeveral();
        levelPartBounds();
        levelPartNone();
        levelPartSize();
        finish();
    }

    /** ZERO, UP of it, and the three parameters: levels 0 to 4. */
    private static Counted small() {
        Counted x = new Counted();
        x.level(UP, 0, 0);
        for (int k = 0; k < 3; k++) x.level(PARAMETER, k, 0);
        return x;
    }

    private static int up(Counted x, int level, int times) {
        int l = level;
        for (int k = 0; k < times; k++) l = x.level(UP, l, 0);
        return l;
    }

    /** Level x + 15, of a size of 16, as typing makes it. */
    private static int sixteen(Counted x, int leaf) {
        int t = x.sort(up(x, leaf, 7));
        for (int k = 0; k < 8; k++) t = x.type(t);
        return x.part(t, 1);
    }

    // Promise 2: "of kind 1 UP a, 2 MAX a b, 3 IMAX a b, 4 PARAMETER a" .. "IllegalArgument: the kind".
    private static void kinds() {
        Counted x = new Counted();
        due("kind 1", x.level(1, 0, 0), 1);
        levelParts(x, 1, UP, 0, NONE, 2);
        due("kind 2", x.level(2, 1, 0), 2);
        levelParts(x, 2, MAX, 1, 0, 4);
        due("kind 3", x.level(3, 1, 0), 3);
        levelParts(x, 3, IMAX, 1, 0, 4);
        due("kind 4", x.level(4, 1, 0), 4);
        levelParts(x, 4, PARAMETER, 1, NONE, 1);
        for (int kind : new int[] {LEAST, -1, 0, 5, 6, GREATEST}) {
            refused("kind " + kind, x, ARGUMENT, () -> x.level(kind, 0, 0));
        }
    }

    // Promise 2: "IllegalArgument: .. a is no parameter"; the document's "PARAMETERS 0, 1, 2".
    private static void whatIsNoParameter() {
        Counted x = new Counted();
        for (int a : new int[] {LEAST, -1, 3, 4, GREATEST}) {
            refused("PARAMETER " + a, x, ARGUMENT, () -> x.level(PARAMETER, a, 0));
        }
        due("PARAMETER 2, where there is no level 2", x.level(PARAMETER, 2, 0), 1);
        due("PARAMETER 0", x.level(PARAMETER, 0, 0), 2);
        due("PARAMETER 1", x.level(PARAMETER, 1, 0), 3);
        levelParts(x, 1, PARAMETER, 2, NONE, 1);
        levelParts(x, 2, PARAMETER, 0, NONE, 1);
        refused("PARAMETER 3, where there is a level 3", x, ARGUMENT, () -> x.level(PARAMETER, 3, 0));
    }

    // Promise 2: "b counts for 2 and 3 alone".
    private static void whereSecondCounts() {
        Counted x = small();
        for (int b : new int[] {LEAST, -1, 5, GREATEST}) {
            unchanged("UP 0, b " + b, x, 1, () -> x.level(UP, 0, b));
            unchanged("PARAMETER 0, b " + b, x, 2, () -> x.level(PARAMETER, 0, b));
            refused("MAX 0 " + b, x, INDEX, () -> x.level(MAX, 0, b));
            refused("IMAX 0 " + b, x, INDEX, () -> x.level(IMAX, 0, b));
        }
        due("MAX 0 4", x.level(MAX, 0, 4), 5);
        due("MAX 0 3", x.level(MAX, 0, 3), 6);
        due("IMAX 0 4", x.level(IMAX, 0, 4), 7);
        due("IMAX 0 3", x.level(IMAX, 0, 3), 8);
    }

    // Promise 2 and "IndexOutOfBounds: there is no such level".
    private static void noSuchLevel() {
        Counted x = new Counted();
        for (int kind = UP; kind <= IMAX; kind++) {
            int k = kind;
            for (int a : new int[] {LEAST, -1, 1, 2, 300, GREATEST}) {
                refused("kind " + k + " of level " + a + ", where only ZERO is", x, INDEX, () -> x.level(k, a, 0));
            }
        }
        due("UP of the last level", x.level(UP, 0, 0), 1);
        due("MAX of the last level", x.level(MAX, 1, 1), 2);
        due("IMAX of the last level", x.level(IMAX, 2, 1), 3);
        refused("UP of the next", x, INDEX, () -> x.level(UP, 4, 0));
        refused("MAX of the next", x, INDEX, () -> x.level(MAX, 4, 0));
        refused("IMAX with the next", x, INDEX, () -> x.level(IMAX, 0, 4));
    }

    // Promise 2 and "Levels and terms that are made alike are one, and have one number": not those that are worth as much.
    private static void madeAlike() {
        Counted x = small();
        due("MAX 2 3", x.level(MAX, 2, 3), 5);
        due("MAX 3 2", x.level(MAX, 3, 2), 6);
        due("IMAX 2 3", x.level(IMAX, 2, 3), 7);
        due("MAX 0 0", x.level(MAX, 0, 0), 8);
        due("IMAX 0 0", x.level(IMAX, 0, 0), 9);
        due("MAX 2 2", x.level(MAX, 2, 2), 10);
        int[][] again = {{UP, 0, 0, 1}, {PARAMETER, 0, 0, 2}, {PARAMETER, 1, 0, 3}, {PARAMETER, 2, 0, 4}, {MAX, 2, 3, 5},
            {MAX, 3, 2, 6}, {IMAX, 2, 3, 7}, {MAX, 0, 0, 8}, {IMAX, 0, 0, 9}, {MAX, 2, 2, 10}};
        for (int[] a : again) unchanged("level " + a[3] + " again", x, a[3], () -> x.level(a[0], a[1], a[2]));
    }

    // Promise 2: "UnsupportedOperation: .. a level of a size above 8".
    private static void largestAsked() {
        Counted x = new Counted();
        int two = up(x, 0, 1), three = up(x, two, 1), four = up(x, three, 1), six = up(x, four, 2), seven = up(x, six, 1);
        int eight = x.level(UP, seven, 0);
        due("UP of size 8", x.levelPart(eight, 3), 8);
        refused("UP of size 9", x, TOO_MANY, () -> x.level(UP, eight, 0));
        for (int kind = MAX; kind <= IMAX; kind++) {
            int k = kind;
            due("kind " + k + " of size 8", x.levelPart(x.level(k, three, four), 3), 8);
            due("kind " + k + " of size 8, the first large", x.levelPart(x.level(k, six, 0), 3), 8);
            due("kind " + k + " of size 8, the second large", x.levelPart(x.level(k, 0, six), 3), 8);
            refused("kind " + k + " of size 9", x, TOO_MANY, () -> x.level(k, four, four));
            refused("kind " + k + " of size 9, the first large", x, TOO_MANY, () -> x.level(k, seven, 0));
            refused("kind " + k + " of size 9, the second large", x, TOO_MANY, () -> x.level(k, 0, seven));
            refused("kind " + k + " of size 17", x, TOO_MANY, () -> x.level(k, eight, eight));
        }
    }

    // Promise 2: "as they are asked for by these calls, also where such a one is there as an answer".
    private static void largeOnesThatAreThere() {
        World w = new World();
        Counted x = w.x;
        int eight = w.up(0, 7), three = w.up(0, 2), four = w.up(0, 3);
        int nine = x.part(x.type(x.sort(eight)), 1);
        levelParts(x, nine, UP, eight, NONE, 9);
        refused("UP of size 9 that is there", x, TOO_MANY, () -> x.level(UP, eight, 0));
        int imax = x.part(x.type(w.pi(x.sort(three), x.sort(three))), 1);
        levelParts(x, imax, IMAX, four, four, 9);
        refused("IMAX of size 9 that is there", x, TOO_MANY, () -> x.level(IMAX, four, four));
        int both = x.declare(2, x.sort(w.max(w.p0, w.p1)), NONE);
        int max = x.part(x.type(x.name(both, four, four)), 1);
        levelParts(x, max, MAX, four, four, 9);
        refused("MAX of size 9 that is there", x, TOO_MANY, () -> x.level(MAX, four, four));
        int last = sixteen(x, 0);
        due("a level of size 16", x.levelPart(last, 3), 16);
        refused("UP of that", x, TOO_MANY, () -> x.level(UP, last, 0));
        refused("MAX of that", x, TOO_MANY, () -> x.level(MAX, last, last));
        refused("IMAX of that", x, TOO_MANY, () -> x.level(IMAX, last, last));
        refused("MAX of ZERO and that", x, TOO_MANY, () -> x.level(MAX, 0, last));
    }

    private static Counted full(int most) {
        Counted x = new Counted();
        World.fillLevels(x, most);
        return x;
    }

    // Promise 2: "UnsupportedOperation: there would be more than there may be (300 levels".
    private static void mostLevels() {
        Counted last = full(299);
        due("the 300th level, PARAMETER", last.level(PARAMETER, 2, 0), 299);
        levelParts(last, 299, PARAMETER, 2, NONE, 1);
        refused("a 301st level", last, TOO_MANY, () -> last.level(UP, 299, 0));
        due("the 300th level, IMAX", full(299).level(IMAX, 1, 36), 299);
        Counted x = full(300);
        due("levels", x.told(0), 300);
        refused("a 301st level, UP", x, TOO_MANY, () -> x.level(UP, 40, 0));
        refused("a 301st level, MAX", x, TOO_MANY, () -> x.level(MAX, 4, 4));
        refused("a 301st level, IMAX", x, TOO_MANY, () -> x.level(IMAX, 4, 4));
        refused("a 301st level, PARAMETER", x, TOO_MANY, () -> x.level(PARAMETER, 2, 0));
        unchanged("a parameter that is there", x, 3, () -> x.level(PARAMETER, 1, 0));
        unchanged("a level that is there", x, 1, () -> x.level(UP, 0, 0));
        refused("no kind, where there are 300", x, ARGUMENT, () -> x.level(5, 0, 0));
        refused("no parameter, where there are 300", x, ARGUMENT, () -> x.level(PARAMETER, 3, 0));
        refused("UP of level 300, which is not there", x, INDEX, () -> x.level(UP, 300, 0));
        refused("MAX with level 300", x, INDEX, () -> x.level(MAX, 299, 300));
        due("a term of the last level", x.part(x.sort(299), 1), 299);
    }

    // Promise 2: "Of several that a call names, the first one": IllegalArgument, IndexOutOfBounds, UnsupportedOperation.
    private static void firstOfSeveral() {
        Counted x = small();
        int eight = up(x, 2, 7);
        refused("no kind, of no level", x, ARGUMENT, () -> x.level(0, -1, 99));
        refused("no kind, of a large level", x, ARGUMENT, () -> x.level(5, eight, eight));
        refused("no level, with a large one", x, INDEX, () -> x.level(MAX, eight, -1));
        refused("no level before a large one", x, INDEX, () -> x.level(IMAX, -1, eight));
        refused("two large ones", x, TOO_MANY, () -> x.level(IMAX, eight, eight));
    }

    // Promise 3: "Whether level a is at most b": as much is at most.
    private static void atMostItself() {
        Counted x = small();
        x.level(MAX, 2, 3);
        x.level(IMAX, 2, 3);
        for (int a = 0; a < 7; a++) {
            int l = a;
            unchanged("level " + a + " at most itself", x, 1, () -> x.atMost(l, l) ? 1 : 0);
            due("ZERO at most level " + a, x.atMost(0, a), true);
        }
        due("1 at most 0", x.atMost(1, 0), false);
        due("MAX p q at most MAX q p", x.atMost(5, x.level(MAX, 3, 2)), true);
        due("UP (MAX p q) at most MAX p q", x.atMost(x.level(UP, 5, 0), 5), false);
    }

    // Promise 3: "whatever parameters are", and these are "any whole number from 0 on".
    private static void atMostAtEachEdge() {
        for (int k = 0; k < 3; k++) {
            Counted x = small();
            int one = 1, two = up(x, one, 1), p = 2 + k, q = 2 + (k + 1) % 3, far = up(x, 0, 7);
            due("1 at most p fails at 0 alone", x.atMost(one, p), false);
            due("MAX q p at most IMAX q p fails where p is 0 alone", x.atMost(x.level(MAX, q, p), x.level(IMAX, q, p)), false);
            due("IMAX 2 p at most p fails at 1 alone", x.atMost(x.level(IMAX, two, p), p), false);
            due("IMAX 1 p at most p", x.atMost(x.level(IMAX, one, p), p), true);
            due("p at most 7 fails from 8 on", x.atMost(p, far), false);
            due("p at most MAX q 5 fails from 6 on", x.atMost(p, x.level(MAX, q, up(x, 0, 5))), false);
            due("p + 7 at most MAX q (p + 5)", x.atMost(up(x, p, 7), x.level(MAX, q, up(x, p, 5))), false);
            due("p + 5 at most MAX q (p + 5)", x.atMost(up(x, p, 5), x.level(MAX, q, up(x, p, 5))), true);
            due("IMAX p 0 at most 0", x.atMost(x.level(IMAX, p, 0), 0), true);
            due("MAX p 0 at most 0", x.atMost(x.level(MAX, p, 0), 0), false);
            due("p at most p + 1", x.atMost(p, x.level(UP, p, 0)), true);
            due("p + 1 at most p", x.atMost(x.level(UP, p, 0), p), false);
        }
    }

    // Promise 3, with levels that are there as answers: the largest has a size of 16.
    private static void atMostOfLargestLevels() {
        Counted x = small();
        int fifteen = sixteen(x, 0), farP = sixteen(x, 2), farR = sixteen(x, 4);
        due("p at most 15 fails from 16 on", x.atMost(2, fifteen), false);
        due("r at most 15 fails from 16 on", x.atMost(4, fifteen), false);
        due("15 at most p + 15", x.atMost(fifteen, farP), true);
        due("p + 15 at most 15 fails from 1 on", x.atMost(farP, fifteen), false);
        due("p + 15 at most r + 15", x.atMost(farP, farR), false);
        due("p + 15 at most itself", x.atMost(farP, farP), true);
        due("p + 14 at most p + 15", x.atMost(x.levelPart(farP, 1), farP), true);
        due("p + 15 at most p + 14", x.atMost(farP, x.levelPart(farP, 1)), false);
    }

    /** All levels of a size of at most 3, and what each is worth for parameters from 0 to 4. */
    private static final class SmallLevels {
        final Counted x = small();
        final int[][] worth = new int[64][];
        int count = 5;

        SmallLevels() {
            for (int l = 0; l < 5; l++) worth[l] = new int[125];
            for (int at = 0; at < 125; at++) {
                worth[1][at] = 1;
                worth[2][at] = at % 5;
                worth[3][at] = at / 5 % 5;
                worth[4][at] = at / 25;
            }
            int[] leaves = {0, 2, 3, 4};
            for (int a = 1; a < 5; a++) add(UP, a, a);
            for (int a : leaves) for (int b : leaves) for (int kind = MAX; kind <= IMAX; kind++) add(kind, a, b);
        }

        private void add(int kind, int a, int b) {
            due("a new level", x.level(kind, a, b), count);
            worth[count] = new int[125];
            for (int at = 0; at < 125; at++) {
                int u = worth[a][at], v = worth[b][at];
                worth[count][at] = kind == UP ? u + 1 : kind == IMAX && v == 0 ? 0 : Math.max(u, v);
            }
            count++;
        }

        boolean atMost(int a, int b) {
            for (int at = 0; at < 125; at++) if (worth[a][at] > worth[b][at]) return false;
            return true;
        }
    }

    // Promise 3: every two levels of a size of at most 3, beside what their values tell.
    private static void atMostOfAllSmallLevels() {
        SmallLevels s = new SmallLevels();
        for (int a = 0; a < s.count; a++) {
            for (int b = 0; b < s.count; b++) {
                if (s.x.callsLeft() == 0) s = new SmallLevels();
                due("atMost(" + a + ", " + b + ")", s.x.atMost(a, b), s.atMost(a, b));
            }
        }
    }

    // Promise 3 and "IndexOutOfBounds: there is no such level".
    private static void atMostOfNoLevel() {
        Counted x = new Counted();
        due("of the only level", x.atMost(0, 0), true);
        for (int a : new int[] {LEAST, -1, 1, 300, GREATEST}) {
            refused("atMost(" + a + ", 0)", x, INDEX, () -> x.atMost(a, 0));
            refused("atMost(0, " + a + ")", x, INDEX, () -> x.atMost(0, a));
        }
        x.level(UP, 0, 0);
        due("with the last level", x.atMost(0, 1), true);
        due("of the last level", x.atMost(1, 0), false);
        refused("of the next", x, INDEX, () -> x.atMost(2, 0));
        refused("with the next", x, INDEX, () -> x.atMost(0, 2));
    }

    // Promise 4: "IllegalArgument: one of these is not 0 .. 1000."
    private static void valueBounds() {
        Counted x = small();
        for (int l = 0; l < 5; l++) {
            due("all 0", x.value(l, 0, 0, 0), l == 1 ? 1 : 0);
            due("all 1000", x.value(l, 1000, 1000, 1000), l == 0 ? 0 : l == 1 ? 1 : 1000);
        }
        for (int p : new int[] {0, 1, 999, 1000}) {
            unchanged("p " + p, x, p, () -> x.value(2, p, 0, 0));
            unchanged("q " + p, x, p, () -> x.value(3, 0, p, 0));
            unchanged("r " + p, x, p, () -> x.value(4, 0, 0, p));
        }
        for (int bad : new int[] {LEAST, -1, 1001, GREATEST}) {
            for (int l : new int[] {0, 4}) {
                refused("p " + bad + " for level " + l, x, ARGUMENT, () -> x.value(l, bad, 0, 0));
                refused("q " + bad + " for level " + l, x, ARGUMENT, () -> x.value(l, 0, bad, 0));
                refused("r " + bad + " for level " + l, x, ARGUMENT, () -> x.value(l, 0, 0, bad));
            }
        }
    }

    // Promise 4 and "IMAX a b (0 if b is 0, else MAX a b)".
    private static void valueOfImax() {
        Counted x = small();
        int imax = x.level(IMAX, 2, 3), max = x.level(MAX, 2, 3);
        due("IMAX p q, q 0", x.value(imax, 1000, 0, 5), 0);
        due("IMAX p q, q 1", x.value(imax, 1000, 1, 5), 1000);
        due("IMAX p q, p 0", x.value(imax, 0, 1000, 5), 1000);
        due("IMAX p q, both 0", x.value(imax, 0, 0, 5), 0);
        due("IMAX p q, both 7", x.value(imax, 7, 7, 5), 7);
        due("MAX p q, q 0", x.value(max, 1000, 0, 5), 1000);
        due("MAX p q, p 0", x.value(max, 0, 3, 5), 3);
        due("IMAX p 0", x.value(x.level(IMAX, 2, 0), 9, 9, 9), 0);
        due("IMAX p (UP 0)", x.value(x.level(IMAX, 2, 1), 9, 9, 9), 9);
        due("UP (IMAX p q), q 0", x.value(x.level(UP, imax, 0), 9, 0, 9), 1);
        due("IMAX r (IMAX p q), q 0", x.value(x.level(IMAX, 4, imax), 9, 0, 8), 0);
        due("IMAX (IMAX p q) r, q 0", x.value(x.level(IMAX, imax, 4), 9, 0, 8), 8);
    }

    // Promise 4: the greatest value that a level can have, and one of ZERO alone.
    private static void largestValue() {
        Counted x = small();
        due("p + 7 at 1000", x.value(up(x, 2, 7), 1000, 0, 0), 1007);
        due("q + 15 at 1000", x.value(sixteen(x, 3), 0, 1000, 0), 1015);
        due("r + 15 at 0", x.value(sixteen(x, 4), 1000, 1000, 0), 15);
        due("15", x.value(sixteen(x, 0), 1000, 1000, 1000), 15);
    }

    // Promise 4: "Of several that a call names, the first one": IndexOutOfBounds, then IllegalArgument.
    private static void valueFirstOfSeveral() {
        Counted x = small();
        for (int l : new int[] {LEAST, -1, 5, 300, GREATEST}) {
            refused("value of level " + l, x, INDEX, () -> x.value(l, 0, 0, 0));
            refused("value of level " + l + ", p -1", x, INDEX, () -> x.value(l, -1, 1001, 0));
            refused("value of level " + l + ", r 1001", x, INDEX, () -> x.value(l, 0, 0, 1001));
        }
        due("of the last level", x.value(4, 0, 0, 3), 3);
    }

    // Promise 16: "its kind (what = 0), its parts (1, 2 ..), its size (3)", and IllegalArgument for another what.
    private static void levelPartBounds() {
        Counted x = small();
        for (int what : new int[] {LEAST, -1, 4, 5, GREATEST}) {
            refused("levelPart(0, " + what + ")", x, ARGUMENT, () -> x.levelPart(0, what));
            refused("levelPart(4, " + what + ")", x, ARGUMENT, () -> x.levelPart(4, what));
        }
        for (int l : new int[] {LEAST, -1, 5, 300, GREATEST}) {
            for (int what : new int[] {-1, 0, 3, 4}) {
                refused("levelPart(" + l + ", " + what + ")", x, INDEX, () -> x.levelPart(l, what));
            }
        }
        unchanged("the last level's kind", x, PARAMETER, () -> x.levelPart(4, 0));
        unchanged("the last level's size", x, 1, () -> x.levelPart(4, 3));
    }

    // Promise 16: "its parts (1, 2; a level's number, a parameter's; NONE)".
    private static void levelPartNone() {
        Counted x = small();
        levelParts(x, 0, ZERO, NONE, NONE, 1);
        levelParts(x, 1, UP, 0, NONE, 2);
        levelParts(x, 2, PARAMETER, 0, NONE, 1);
        levelParts(x, 4, PARAMETER, 2, NONE, 1);
        levelParts(x, x.level(MAX, 0, 4), MAX, 0, 4, 3);
        levelParts(x, x.level(IMAX, 4, 0), IMAX, 4, 0, 3);
    }

    // Promise 16 and "A level's SIZE is how many of these are in it": from 1 to 16.
    private static void levelPartSize() {
        Counted x = small();
        int l = sixteen(x, 4);
        for (int size = 16; size > 1; size--) {
            due("size", x.levelPart(l, 3), size);
            due("kind", x.levelPart(l, 0), UP);
            l = x.levelPart(l, 1);
        }
        due("the innermost", l, 4);
        int a = x.level(MAX, x.level(IMAX, 2, 2), x.level(UP, 1, 0));
        due("MAX (IMAX p p) (UP (UP ZERO))", x.levelPart(a, 3), 7);
    }
}
