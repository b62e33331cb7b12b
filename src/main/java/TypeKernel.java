/**
 * A small theory of dependent types: levels, terms and declared names, each with a number.
 *
 * Numbered terms are kept as a table of parts. All work on terms (steps, normal forms, types) is
 * done on rows, which hold one term as its marks in prefix order: there the next step is simply the
 * first place that is one, a size is a length, and nothing but typing has to call itself.
 */
public final class TypeKernel {
    public static final int NONE = -1, OUT = -6;
    public static final int ZERO = 0, UP = 1, MAX = 2, IMAX = 3, PARAMETER = 4;
    public static final int SORT = 0, VARIABLE = 1, NAME = 2, PI = 3, LAMBDA = 4, APPLY = 5, LET = 6;

    private static final int MOST_LEVELS = 300, MOST_TERMS = 1500, MOST_NAMES = 40;
    private static final int LARGEST_ASKED_LEVEL = 8, LARGEST_ASKED_TERM = 60;
    private static final int LARGEST_LEVEL = 16, LARGEST_TERM = 200, MOST_STEPS = 30;
    private static final int LEVEL_PARAMETERS = 3, MOST_NAME_PARAMETERS = 2;
    private static final int LAST_VARIABLE = 59, LARGEST_PARAMETER_VALUE = 1000;

    // A term with parts has at least two, so one of size 200 has at most 99 such terms one in another.
    private static final int DEEPEST = 100;

    private static final int FINE = 0;
    private static final int NO_BINDER = 1, NO_FUNCTION = 2, WRONG_ARGUMENT = 3, NO_SORT = 4;
    private static final int TOO_MUCH = 5, WRONG_LET = 6, WRONG_VALUE = 7, STRANGE_PARAMETER = 8;

    private final Levels levels;
    private final Terms terms;
    private final Names names;
    private final Reducer reducer;
    private final Typer typer;
    private final Row here;
    private final Row there;

    public TypeKernel() {
        levels = new Levels();
        terms = new Terms(levels);
        names = new Names();
        reducer = new Reducer(terms, names);
        typer = new Typer(levels, terms, names, reducer);
        here = new Row();
        there = new Row();
    }

    public int level(int kind, int a, int b)
            throws IllegalArgumentException, IndexOutOfBoundsException, UnsupportedOperationException {
        if (kind < UP || kind > PARAMETER) {
            throw new IllegalArgumentException("no such kind of level");
        }
        if (kind == PARAMETER) {
            if (a < 0 || a >= LEVEL_PARAMETERS) {
                throw new IllegalArgumentException("no such parameter");
            }
            return askedLevel(Code.ofParameter(a));
        }
        needLevel(a);
        if (kind == UP) {
            return askedLevel(Code.ofUp(levels.codeOf(a)));
        }
        needLevel(b);
        return askedLevel(Code.ofTwo(kind, levels.codeOf(a), levels.codeOf(b)));
    }

    public boolean atMost(int a, int b)
            throws IndexOutOfBoundsException {
        needLevel(a);
        needLevel(b);
        return levels.isAtMost(levels.codeOf(a), levels.codeOf(b));
    }

    public int value(int level, int p, int q, int r)
            throws IndexOutOfBoundsException, IllegalArgumentException {
        needLevel(level);
        needParameterValue(p);
        needParameterValue(q);
        needParameterValue(r);
        return levels.worth(levels.codeOf(level), p, q, r);
    }

    public int sort(int level)
            throws IndexOutOfBoundsException, UnsupportedOperationException {
        needLevel(level);
        return askedTerm(SORT, level, NONE, NONE);
    }

    public int variable(int i)
            throws IllegalArgumentException, UnsupportedOperationException {
        if (i < 0 || i > LAST_VARIABLE) {
            throw new IllegalArgumentException("no such variable");
        }
        return askedTerm(VARIABLE, i, NONE, NONE);
    }

    public int name(int c, int first, int second)
            throws IndexOutOfBoundsException, UnsupportedOperationException {
        needName(c);
        needLevel(first);
        needLevel(second);
        return askedTerm(NAME, c, first, second);
    }

    public int term(int kind, int a, int b)
            throws IllegalArgumentException, IndexOutOfBoundsException, UnsupportedOperationException {
        if (kind != PI && kind != LAMBDA && kind != APPLY) {
            throw new IllegalArgumentException("no such kind of term");
        }
        needTerm(a);
        needTerm(b);
        return askedTerm(kind, a, b, NONE);
    }

    public int let(int type, int v, int b)
            throws IndexOutOfBoundsException, UnsupportedOperationException {
        needTerm(type);
        needTerm(v);
        needTerm(b);
        return askedTerm(LET, type, v, b);
    }

    public int type(int term)
            throws IndexOutOfBoundsException, UnsupportedOperationException {
        needTerm(term);
        int reason = typer.find(term, 0, 0);
        return reason == FINE ? numbered(typer.found) : NONE - reason;
    }

    public int normal(int term)
            throws IndexOutOfBoundsException, UnsupportedOperationException {
        needTerm(term);
        terms.spread(term, here);
        return reducer.reduce(here) == OUT ? OUT : numbered(here);
    }

    public int steps(int term)
            throws IndexOutOfBoundsException {
        needTerm(term);
        terms.spread(term, here);
        return reducer.reduce(here);
    }

    public int same(int a, int b)
            throws IndexOutOfBoundsException {
        needTerm(a);
        needTerm(b);
        terms.spread(a, here);
        terms.spread(b, there);
        if (reducer.reduce(here) == OUT || reducer.reduce(there) == OUT) {
            return OUT;
        }
        return here.matches(0, here.size, there, levels) ? 1 : 0;
    }

    public int declare(int parameters, int type, int v)
            throws IllegalArgumentException, IndexOutOfBoundsException, UnsupportedOperationException {
        if (parameters < 0 || parameters > MOST_NAME_PARAMETERS) {
            throw new IllegalArgumentException("no such number of parameters");
        }
        needTerm(type);
        if (v != NONE) {
            needTerm(v);
        }
        if (names.count >= MOST_NAMES) {
            throw new UnsupportedOperationException("too many names");
        }
        int reason = reasonAgainst(parameters, type, v);
        return reason == FINE ? names.add(parameters, type, v) : NONE - reason;
    }

    public int part(int term, int what)
            throws IndexOutOfBoundsException, IllegalArgumentException {
        needTerm(term);
        switch (what) {
            case 0: return terms.kind[term];
            case 1: return terms.one[term];
            case 2: return terms.two[term];
            case 3: return terms.three[term];
            case 4: return terms.size[term];
            case 5: return terms.open[term];
            default: throw new IllegalArgumentException("no such part of a term");
        }
    }

    public int levelPart(int level, int what)
            throws IndexOutOfBoundsException, IllegalArgumentException {
        needLevel(level);
        switch (what) {
            case 0: return Code.kindOf(levels.codeOf(level));
            case 1: return levels.one[level];
            case 2: return levels.two[level];
            case 3: return Code.sizeOf(levels.codeOf(level));
            default: throw new IllegalArgumentException("no such part of a level");
        }
    }

    public int declared(int name, int what)
            throws IndexOutOfBoundsException, IllegalArgumentException {
        needName(name);
        switch (what) {
            case 0: return names.parameters[name];
            case 1: return names.typeTerm[name];
            case 2: return names.valueTerm[name];
            default: throw new IllegalArgumentException("no such part of a name");
        }
    }

    public int told(int what) {
        switch (what) {
            case 0: return levels.count;
            case 1: return terms.count;
            case 2: return names.count;
            default: return NONE;
        }
    }

    public void clear() {
        levels.count = 1;
        terms.count = 0;
        names.count = 0;
    }

    private void needLevel(int level) {
        if (level < 0 || level >= levels.count) {
            throw new IndexOutOfBoundsException("no such level");
        }
    }

    private void needTerm(int term) {
        if (term < 0 || term >= terms.count) {
            throw new IndexOutOfBoundsException("no such term");
        }
    }

    private void needName(int name) {
        if (name < 0 || name >= names.count) {
            throw new IndexOutOfBoundsException("no such name");
        }
    }

    private void needParameterValue(int x) {
        if (x < 0 || x > LARGEST_PARAMETER_VALUE) {
            throw new IllegalArgumentException("no such value of a parameter");
        }
    }

    private int askedLevel(long code) {
        // The size counts before the look-up: a large level is refused even where an answer has it.
        if (code == Code.TOO_LARGE || Code.sizeOf(code) > LARGEST_ASKED_LEVEL) {
            throw new UnsupportedOperationException("too large a level");
        }
        int number = levels.keep(code);
        if (number == NONE) {
            throw new UnsupportedOperationException("too many levels");
        }
        return number;
    }

    private int askedTerm(int kind, int one, int two, int three) {
        if (terms.sizeFor(kind, one, two, three) > LARGEST_ASKED_TERM) {
            throw new UnsupportedOperationException("too large a term");
        }
        int number = terms.keep(kind, one, two, three);
        if (number == NONE) {
            throw new UnsupportedOperationException("too many terms");
        }
        return number;
    }

    private int numbered(Row row) {
        int levelsBefore = levels.count;
        int termsBefore = terms.count;
        terms.reading = 0;
        int number = terms.keepNext(row, 0);
        if (number == NONE) {
            // Parts may have got numbers before the room ran out, and a call that throws changes nothing.
            levels.count = levelsBefore;
            terms.count = termsBefore;
            throw new UnsupportedOperationException("no room for the answer");
        }
        return number;
    }

    private int reasonAgainst(int parameters, int type, int v) {
        if (hasStrangeParameter(type, parameters) || v != NONE && hasStrangeParameter(v, parameters)) {
            return STRANGE_PARAMETER;
        }
        int reason = typer.find(type, 0, 0);
        if (reason == FINE) {
            reason = typer.needSort(reducer.reduce(typer.found), typer.found);
        }
        if (reason != FINE || v == NONE) {
            return reason;
        }
        reason = typer.find(v, 0, 0);
        if (reason != FINE) {
            return reason;
        }
        terms.spread(type, here);
        if (reducer.reduce(typer.found) == OUT || reducer.reduce(here) == OUT) {
            return TOO_MUCH;
        }
        return here.matches(0, here.size, typer.found, levels) ? FINE : WRONG_VALUE;
    }

    private boolean hasStrangeParameter(int term, int parameters) {
        terms.spread(term, here);
        return here.hasParameterFrom(parameters);
    }

    /**
     * A level as one number: its marks in prefix order, three bits each, the first one lowest. No mark
     * is 0, so the size can be read off, and levels that are made alike are equal numbers.
     */
    private static final class Code {
        static final long TOO_LARGE = -1, OF_ZERO = ZERO + 1;
        private static final int BITS = 3, MASK = 7;
        private static final int FIRST_PARAMETER = PARAMETER + 1;

        private Code() {
        }

        static long ofParameter(int parameter) {
            return FIRST_PARAMETER + parameter;
        }

        static long ofUp(long a) {
            return sizeOf(a) < LARGEST_LEVEL ? UP + 1 | a << BITS : TOO_LARGE;
        }

        static long ofTwo(int kind, long a, long b) {
            int sizeOfA = sizeOf(a);
            if (1 + sizeOfA + sizeOf(b) > LARGEST_LEVEL) {
                return TOO_LARGE;
            }
            return kind + 1 | a << BITS | b << BITS * (1 + sizeOfA);
        }

        static int markAt(long code, int i) {
            return (int) (code >>> BITS * i) & MASK;
        }

        static int sizeOf(long code) {
            int size = 0;
            while (size < LARGEST_LEVEL && markAt(code, size) != 0) {
                size++;
            }
            return size;
        }

        static int kindOf(long code) {
            return Math.min(markAt(code, 0) - 1, PARAMETER);
        }

        static int parameterOf(long code) {
            return markAt(code, 0) - FIRST_PARAMETER;
        }

        static int partsOf(int mark) {
            int kind = mark - 1;
            return kind == UP ? 1 : kind == MAX || kind == IMAX ? 2 : 0;
        }

        /** How many marks the first part of a level takes. */
        static int firstPartSize(long code) {
            int missing = 1;
            int at = 1;
            while (at < LARGEST_LEVEL && missing > 0) {
                missing += partsOf(markAt(code, at)) - 1;
                at++;
            }
            return at - 1;
        }

        /** Some marks of a level, as a level. */
        static long cut(long code, int from, int length) {
            return code >>> BITS * from & (1L << BITS * length) - 1;
        }

        static boolean hasParameterFrom(long code, int parameters) {
            for (int i = 0; i < LARGEST_LEVEL && code >>> BITS * i != 0; i++) {
                if (markAt(code, i) >= FIRST_PARAMETER + parameters) {
                    return true;
                }
            }
            return false;
        }

        /** The level with two levels for parameters 0 and 1, or TOO_LARGE. */
        static long withLevels(long code, long first, long second) {
            long made = 0;
            int madeSize = 0;
            for (int i = 0; i < LARGEST_LEVEL && code >>> BITS * i != 0; i++) {
                long mark = code >>> BITS * i & MASK;
                long piece = mark == FIRST_PARAMETER ? first : mark == FIRST_PARAMETER + 1 ? second : mark;
                for (int j = 0; j < LARGEST_LEVEL && piece >>> BITS * j != 0; j++) {
                    if (madeSize >= LARGEST_LEVEL) {
                        return TOO_LARGE;
                    }
                    made |= (piece >>> BITS * j & MASK) << BITS * madeSize;
                    madeSize++;
                }
            }
            return made;
        }
    }

    /** The numbered levels, and what levels are worth. */
    private static final class Levels {
        // With it settled which parameters are 0, a level of size 16 or less is the largest of a number
        // and some parameters with a number added, none of these above 15. Two such levels are then
        // told apart where each of the other parameters is 1, or one of them is far above the rest.
        private static final int[] TELLING_VALUES = {0, 1, 100};

        int count;
        final long[] code;
        final int[] one;
        final int[] two;
        private final int[] stack;

        Levels() {
            code = new long[MOST_LEVELS];
            one = new int[MOST_LEVELS];
            two = new int[MOST_LEVELS];
            stack = new int[LARGEST_LEVEL];
            code[0] = Code.OF_ZERO;
            one[0] = NONE;
            two[0] = NONE;
            count = 1;
        }

        long codeOf(int number) {
            return number >= 0 && number < count ? code[number] : Code.OF_ZERO;
        }

        private int find(long wanted) {
            for (int i = 0; i < count; i++) {
                if (code[i] == wanted) {
                    return i;
                }
            }
            return NONE;
        }

        /** The number of a level, its parts numbered before it; NONE if there is no room. */
        int keep(long wanted) {
            int found = find(wanted);
            if (found != NONE) {
                return found;
            }
            int size = Code.sizeOf(wanted);
            if (size == 0) {
                return NONE;
            }
            int parts = Code.partsOf(Code.markAt(wanted, 0));
            int cut = 1 + Code.firstPartSize(wanted);
            int first = parts > 0 ? keep(Code.cut(wanted, 1, cut - 1)) : NONE;
            if (parts > 0 && first == NONE) {
                return NONE;
            }
            int second = parts > 1 ? keep(Code.cut(wanted, cut, size - cut)) : NONE;
            if (parts > 1 && second == NONE || count >= MOST_LEVELS) {
                return NONE;
            }
            code[count] = wanted;
            one[count] = parts > 0 ? first : Code.parameterOf(wanted);
            two[count] = second;
            count++;
            return count - 1;
        }

        /** A level's value: its marks are read from the last one, so that parts come before their level. */
        int worth(long level, int p, int q, int r) {
            int top = 0;
            stack[0] = 0;
            for (int i = LARGEST_LEVEL - 1; i >= 0; i--) {
                int kind = (int) (level >>> Code.BITS * i & Code.MASK) - 1;
                if (kind == UP && top > 0) {
                    stack[top - 1]++;
                } else if ((kind == MAX || kind == IMAX) && top > 1) {
                    int a = stack[top - 1];
                    int b = stack[top - 2];
                    stack[top - 2] = kind == IMAX && b == 0 ? 0 : Math.max(a, b);
                    top--;
                } else if ((kind == ZERO || kind >= PARAMETER) && top < stack.length) {
                    int parameter = kind - PARAMETER;
                    stack[top] = kind == ZERO ? 0 : parameter == 0 ? p : parameter == 1 ? q : r;
                    top++;
                }
            }
            return stack[0];
        }

        boolean isAtMost(long a, long b) {
            for (int p : TELLING_VALUES) {
                for (int q : TELLING_VALUES) {
                    for (int r : TELLING_VALUES) {
                        if (worth(a, p, q, r) > worth(b, p, q, r)) {
                            return false;
                        }
                    }
                }
            }
            return true;
        }

        boolean areSame(long a, long b) {
            return a == b || isAtMost(a, b) && isAtMost(b, a);
        }
    }

    /** The declared names. */
    private static final class Names {
        int count;
        final int[] parameters;
        final int[] typeTerm;
        final int[] valueTerm;

        Names() {
            parameters = new int[MOST_NAMES];
            typeTerm = new int[MOST_NAMES];
            valueTerm = new int[MOST_NAMES];
        }

        int add(int itsParameters, int itsType, int itsValue) {
            if (count >= MOST_NAMES) {
                return NONE;
            }
            parameters[count] = itsParameters;
            typeTerm[count] = itsType;
            valueTerm[count] = itsValue;
            count++;
            return count - 1;
        }

        int typeOf(int number) {
            return number >= 0 && number < count ? typeTerm[number] : NONE;
        }

        int valueOf(int number) {
            return number >= 0 && number < count ? valueTerm[number] : NONE;
        }
    }

    /** One term, of a size of at most 200, as its marks in prefix order. */
    private static final class Row {
        int size;
        final int[] kind;
        /** A variable's or a name's number; 0 for others. */
        final int[] index;
        /** How many binders of this row are around a mark; a variable with that number or more is from outside. */
        final int[] depth;
        /** A sort's level, or a name's two; 0 for others. */
        final long[] first;
        final long[] second;

        Row() {
            kind = new int[LARGEST_TERM];
            index = new int[LARGEST_TERM];
            depth = new int[LARGEST_TERM];
            first = new long[LARGEST_TERM];
            second = new long[LARGEST_TERM];
        }

        static int partsOf(int kind) {
            return kind == LET ? 3 : kind == PI || kind == LAMBDA || kind == APPLY ? 2 : 0;
        }

        int kindAt(int p) {
            return p >= 0 && p < size ? kind[p] : NONE;
        }

        void add(int itsKind, int itsIndex, int itsDepth, long itsFirst, long itsSecond) {
            if (size >= LARGEST_TERM) {
                return;
            }
            kind[size] = itsKind;
            index[size] = itsIndex;
            depth[size] = itsDepth;
            first[size] = itsFirst;
            second[size] = itsSecond;
            size++;
        }

        void beSort(long level) {
            size = 0;
            add(SORT, 0, 0, level, 0);
        }

        /** Where the term that begins at a place ends. */
        int endOf(int from) {
            int missing = 1;
            int p = Math.max(from, 0);
            while (p < size && missing > 0) {
                missing += partsOf(kind[p]) - 1;
                p++;
            }
            return p;
        }

        /** Adds a mark of another row, below some more binders; a variable from outside is raised. */
        private void copyMark(Row source, int p, int below, int raise) {
            if (size >= LARGEST_TERM || p < 0 || p >= source.size) {
                return;
            }
            boolean outer = source.kind[p] == VARIABLE && source.index[p] >= source.depth[p];
            kind[size] = source.kind[p];
            index[size] = source.index[p] + (outer ? raise : 0);
            depth[size] = source.depth[p] + below;
            first[size] = source.first[p];
            second[size] = source.second[p];
            size++;
        }

        /** Adds a whole term below some more binders. */
        void append(Row source, int below) {
            for (int p = 0; p < source.size; p++) {
                copyMark(source, p, below, 0);
            }
        }

        /** Becomes the part of another row that is there. */
        void takePart(Row source, int from, int to) {
            size = 0;
            if (from < 0 || from >= source.size) {
                return;
            }
            int around = source.depth[from];
            for (int p = from; p < to && p < source.size; p++) {
                copyMark(source, p, -around, 0);
            }
        }

        /** How often the variable of the next binder outside is in this row. */
        int countNextOuter() {
            int found = 0;
            for (int p = 0; p < size; p++) {
                if (kind[p] == VARIABLE && index[p] == depth[p]) {
                    found++;
                }
            }
            return found;
        }

        /** Counts more binders (or less) for the variables from outside. */
        void raise(int by) {
            for (int p = 0; p < size; p++) {
                if (kind[p] == VARIABLE && index[p] >= depth[p]) {
                    index[p] += by;
                }
            }
        }

        /** Becomes body WITH value (both other rows); false if that is too large. */
        boolean fillWith(Row body, Row value) {
            size = 0;
            if (body.size + body.countNextOuter() * (value.size - 1) > LARGEST_TERM) {
                return false;
            }
            for (int p = 0; p < body.size; p++) {
                int around = body.depth[p];
                if (body.kind[p] != VARIABLE || body.index[p] != around) {
                    copyMark(body, p, 0, -1);
                    continue;
                }
                for (int q = 0; q < value.size; q++) {
                    copyMark(value, q, around, around);
                }
            }
            return true;
        }

        /** Puts a term (of another row) in the place of one of this row; false if that is too large. */
        boolean replace(int from, int to, Row made) {
            if (from < 0 || from >= to || to > size || size - (to - from) + made.size > LARGEST_TERM) {
                return false;
            }
            int around = depth[from];
            moveTail(to, from + made.size);
            for (int p = 0; p < made.size; p++) {
                kind[from + p] = made.kind[p];
                index[from + p] = made.index[p];
                depth[from + p] = made.depth[p] + around;
                first[from + p] = made.first[p];
                second[from + p] = made.second[p];
            }
            return true;
        }

        private void moveTail(int from, int to) {
            int length = size - from;
            if (from < 0 || to < 0 || length < 0 || to + length > LARGEST_TERM) {
                return;
            }
            System.arraycopy(kind, from, kind, to, length);
            System.arraycopy(index, from, index, to, length);
            System.arraycopy(depth, from, depth, to, length);
            System.arraycopy(first, from, first, to, length);
            System.arraycopy(second, from, second, to, length);
            size = to + length;
        }

        /** Gives parameters 0 and 1 two levels; false if a level becomes too large. */
        boolean giveLevels(long levelForFirst, long levelForSecond) {
            for (int p = 0; p < size; p++) {
                first[p] = Code.withLevels(first[p], levelForFirst, levelForSecond);
                second[p] = Code.withLevels(second[p], levelForFirst, levelForSecond);
                if (first[p] == Code.TOO_LARGE || second[p] == Code.TOO_LARGE) {
                    return false;
                }
            }
            return true;
        }

        boolean hasParameterFrom(int parameters) {
            for (int p = 0; p < size; p++) {
                if (Code.hasParameterFrom(first[p], parameters) || Code.hasParameterFrom(second[p], parameters)) {
                    return true;
                }
            }
            return false;
        }

        /** Whether a part of this row and the whole of another one are alike but for levels, which are the same. */
        boolean matches(int from, int to, Row other, Levels levels) {
            if (from < 0 || to > size || to - from != other.size) {
                return false;
            }
            for (int p = 0; p < other.size; p++) {
                if (kind[from + p] != other.kind[p] || index[from + p] != other.index[p]) {
                    return false;
                }
                if (!levels.areSame(first[from + p], other.first[p])
                        || !levels.areSame(second[from + p], other.second[p])) {
                    return false;
                }
            }
            return true;
        }
    }

    /** The numbered terms, and the way from them to rows and back. */
    private static final class Terms {
        int count;
        final int[] kind;
        final int[] one;
        final int[] two;
        final int[] three;
        final int[] size;
        /** How many binders would have to be around a term for it to be closed. */
        final int[] open;
        private final Levels levels;
        private final int[] waiting;
        private final int[] waitingDepth;
        private int waits;
        int reading;

        Terms(Levels itsLevels) {
            levels = itsLevels;
            kind = new int[MOST_TERMS];
            one = new int[MOST_TERMS];
            two = new int[MOST_TERMS];
            three = new int[MOST_TERMS];
            size = new int[MOST_TERMS];
            open = new int[MOST_TERMS];
            waiting = new int[LARGEST_TERM + 1];
            waitingDepth = new int[LARGEST_TERM + 1];
        }

        boolean has(int number) {
            return number >= 0 && number < count;
        }

        private int sizeOf(int number) {
            return has(number) ? size[number] : 0;
        }

        private int openOf(int number) {
            return has(number) ? open[number] : 0;
        }

        int sizeFor(int itsKind, int a, int b, int c) {
            switch (Row.partsOf(itsKind)) {
                case 2: return 1 + sizeOf(a) + sizeOf(b);
                case 3: return 1 + sizeOf(a) + sizeOf(b) + sizeOf(c);
                default: return 1;
            }
        }

        private int openFor(int itsKind, int a, int b, int c) {
            switch (itsKind) {
                case VARIABLE: return a + 1;
                case PI:
                case LAMBDA: return Math.max(openOf(a), openOf(b) - 1);
                case APPLY: return Math.max(openOf(a), openOf(b));
                case LET: return Math.max(Math.max(openOf(a), openOf(b)), openOf(c) - 1);
                default: return 0;
            }
        }

        private int find(int itsKind, int a, int b, int c) {
            for (int t = 0; t < count; t++) {
                if (one[t] == a && two[t] == b && three[t] == c && kind[t] == itsKind) {
                    return t;
                }
            }
            return NONE;
        }

        /** The number of a term whose parts have theirs; NONE if there is no room. */
        int keep(int itsKind, int a, int b, int c) {
            int found = find(itsKind, a, b, c);
            if (found != NONE || count >= MOST_TERMS) {
                return found;
            }
            kind[count] = itsKind;
            one[count] = a;
            two[count] = b;
            three[count] = c;
            size[count] = sizeFor(itsKind, a, b, c);
            open[count] = openFor(itsKind, a, b, c);
            count++;
            return count - 1;
        }

        /** The number of the term that a row goes on with, all its parts before it; NONE if there is no room. */
        int keepNext(Row row, int deep) {
            if (deep >= DEEPEST || reading >= row.size) {
                return NONE;
            }
            int p = reading;
            reading++;
            int parts = Row.partsOf(row.kind[p]);
            if (parts == 0) {
                return keepLeaf(row, p);
            }
            int a = keepNext(row, deep + 1);
            int b = a == NONE ? NONE : keepNext(row, deep + 1);
            int c = b == NONE || parts < 3 ? NONE : keepNext(row, deep + 1);
            if (b == NONE || parts == 3 && c == NONE) {
                return NONE;
            }
            return keep(row.kind[p], a, b, c);
        }

        private int keepLeaf(Row row, int p) {
            if (row.kind[p] == VARIABLE) {
                return keep(VARIABLE, row.index[p], NONE, NONE);
            }
            int first = levels.keep(row.first[p]);
            if (first == NONE || row.kind[p] == SORT) {
                return first == NONE ? NONE : keep(SORT, first, NONE, NONE);
            }
            int second = levels.keep(row.second[p]);
            return second == NONE ? NONE : keep(NAME, row.index[p], first, second);
        }

        /** Writes a numbered term into a row. The parts of each term wait, the last one longest. */
        void spread(int term, Row row) {
            row.size = 0;
            waits = 0;
            await(term, 0);
            for (int n = 0; n < LARGEST_TERM && waits > 0; n++) {
                waits--;
                int t = waiting[waits];
                int depth = waitingDepth[waits];
                switch (kind[t]) {
                    case SORT:
                        row.add(SORT, 0, depth, levels.codeOf(one[t]), 0);
                        continue;
                    case VARIABLE:
                        row.add(VARIABLE, one[t], depth, 0, 0);
                        continue;
                    case NAME:
                        row.add(NAME, one[t], depth, levels.codeOf(two[t]), levels.codeOf(three[t]));
                        continue;
                    case LET:
                        await(three[t], depth + 1);
                        await(two[t], depth);
                        break;
                    case APPLY:
                        await(two[t], depth);
                        break;
                    default:
                        await(two[t], depth + 1);
                        break;
                }
                await(one[t], depth);
                row.add(kind[t], 0, depth, 0, 0);
            }
        }

        private void await(int term, int depth) {
            if (term >= 0 && term < count && waits < waiting.length) {
                waiting[waits] = term;
                waitingDepth[waits] = depth;
                waits++;
            }
        }
    }

    /** Brings rows to their normal forms. */
    private static final class Reducer {
        private final Terms terms;
        private final Names names;
        private final Row body;
        private final Row argument;
        private final Row made;

        Reducer(Terms itsTerms, Names itsNames) {
            terms = itsTerms;
            names = itsNames;
            body = new Row();
            argument = new Row();
            made = new Row();
        }

        /** Makes a row its normal form and tells the steps; or OUT, and the row is of no more use. */
        int reduce(Row row) {
            for (int steps = 0; steps <= MOST_STEPS; steps++) {
                int p = nextStep(row);
                if (p == NONE) {
                    // From the last place on, as what is within a LAMBDA comes behind it.
                    for (int q = row.size - 1; q >= 0; q--) {
                        shrink(row, q);
                    }
                    return steps;
                }
                if (steps == MOST_STEPS || !takeStep(row, p)) {
                    return OUT;
                }
            }
            return OUT;
        }

        /** The first place in prefix order: each term comes before its parts, and these in their order. */
        private int nextStep(Row row) {
            for (int p = 0; p < row.size; p++) {
                int kind = row.kind[p];
                if (kind == LET
                        || kind == APPLY && row.kindAt(p + 1) == LAMBDA
                        || kind == NAME && names.valueOf(row.index[p]) != NONE) {
                    return p;
                }
            }
            return NONE;
        }

        private boolean takeStep(Row row, int p) {
            int kind = row.kindAt(p);
            if (kind == NAME) {
                terms.spread(names.valueOf(row.index[p]), made);
                return made.giveLevels(row.first[p], row.second[p]) && row.replace(p, p + 1, made);
            }
            int binder = kind == LET ? p : p + 1;
            int second = row.endOf(binder + 1);
            int third = row.endOf(second);
            int end = row.endOf(third);
            if (kind == LET) {
                argument.takePart(row, second, third);
                body.takePart(row, third, end);
            } else {
                body.takePart(row, second, third);
                argument.takePart(row, third, end);
            }
            return made.fillWith(body, argument) && row.replace(p, end, made);
        }

        /** LAMBDA A (APPLY f (VARIABLE 0)) becomes f, where f has not this variable. */
        private void shrink(Row row, int p) {
            if (row.kindAt(p) != LAMBDA) {
                return;
            }
            int apply = row.endOf(p + 1);
            if (row.kindAt(apply) != APPLY) {
                return;
            }
            int last = row.endOf(apply + 1);
            if (row.kindAt(last) != VARIABLE || row.index[last] != 0) {
                return;
            }
            made.takePart(row, apply + 1, last);
            if (made.countNextOuter() > 0) {
                return;
            }
            made.raise(-1);
            row.replace(p, last + 1, made);
        }
    }

    /**
     * Finds types. The type of a term that is so many terms deep in the one asked for is made in the
     * row of that depth, and those of its parts in the next one.
     */
    private static final class Typer {
        private final Levels levels;
        private final Terms terms;
        private final Names names;
        private final Reducer reducer;
        final Row found;
        private final Row[] rows;
        private final int[] binderType;
        private final Row written;

        Typer(Levels itsLevels, Terms itsTerms, Names itsNames, Reducer itsReducer) {
            levels = itsLevels;
            terms = itsTerms;
            names = itsNames;
            reducer = itsReducer;
            rows = new Row[DEEPEST + 1];
            for (int i = 0; i < rows.length; i++) {
                rows[i] = new Row();
            }
            found = rows[0];
            binderType = new int[DEEPEST + 1];
            written = new Row();
        }

        /** Whether a type whose normal form took so many steps is a SORT by that: FINE, or the reason. */
        int needSort(int steps, Row row) {
            if (steps == OUT) {
                return TOO_MUCH;
            }
            return row.kindAt(0) == SORT ? FINE : NO_SORT;
        }

        /** Makes the row of this depth the type of a numbered term: FINE, or the reason why there is none. */
        int find(int term, int binders, int deep) {
            if (!terms.has(term) || binders < 0 || binders >= DEEPEST || deep < 0 || deep >= DEEPEST) {
                return TOO_MUCH;
            }
            switch (terms.kind[term]) {
                case SORT: return putSort(Code.ofUp(levels.codeOf(terms.one[term])), rows[deep]);
                case VARIABLE: return putBinderType(terms.one[term], binders, rows[deep]);
                case NAME: return putNameType(term, rows[deep]);
                case PI: return findOfPi(term, binders, deep);
                case LAMBDA: return findOfLambda(term, binders, deep);
                case APPLY: return findOfApply(term, binders, deep);
                default: return findOfLet(term, binders, deep);
            }
        }

        private int putSort(long level, Row row) {
            if (level == Code.TOO_LARGE) {
                return TOO_MUCH;
            }
            row.beSort(level);
            return FINE;
        }

        private int putBinderType(int i, int binders, Row row) {
            if (i < 0 || i >= binders) {
                return NO_BINDER;
            }
            terms.spread(binderType[binders - 1 - i], row);
            row.raise(i + 1);
            return FINE;
        }

        private int putNameType(int term, Row row) {
            terms.spread(names.typeOf(terms.one[term]), row);
            long first = levels.codeOf(terms.two[term]);
            long second = levels.codeOf(terms.three[term]);
            return row.giveLevels(first, second) ? FINE : TOO_MUCH;
        }

        private int findOfPi(int term, int binders, int deep) {
            Row below = rows[deep + 1];
            int reason = find(terms.one[term], binders, deep + 1);
            if (reason == FINE) {
                reason = needSort(reducer.reduce(below), below);
            }
            if (reason != FINE) {
                return reason;
            }
            long p = below.first[0];
            binderType[binders] = terms.one[term];
            reason = find(terms.two[term], binders + 1, deep + 1);
            if (reason == FINE) {
                reason = needSort(reducer.reduce(below), below);
            }
            return reason == FINE ? putSort(Code.ofTwo(IMAX, p, below.first[0]), rows[deep]) : reason;
        }

        private int findOfLambda(int term, int binders, int deep) {
            Row own = rows[deep];
            Row below = rows[deep + 1];
            int reason = find(terms.one[term], binders, deep + 1);
            if (reason == FINE) {
                reason = needSort(reducer.reduce(below), below);
            }
            if (reason != FINE) {
                return reason;
            }
            binderType[binders] = terms.one[term];
            reason = find(terms.two[term], binders + 1, deep + 1);
            if (reason != FINE) {
                return reason;
            }
            terms.spread(terms.one[term], written);
            if (1 + written.size + below.size > LARGEST_TERM) {
                return TOO_MUCH;
            }
            own.size = 0;
            own.add(PI, 0, 0, 0, 0);
            own.append(written, 0);
            own.append(below, 1);
            return FINE;
        }

        private int findOfApply(int term, int binders, int deep) {
            Row own = rows[deep];
            Row below = rows[deep + 1];
            int reason = find(terms.one[term], binders, deep + 1);
            if (reason != FINE) {
                return reason;
            }
            if (reducer.reduce(below) == OUT) {
                return TOO_MUCH;
            }
            if (below.kindAt(0) != PI) {
                return NO_FUNCTION;
            }
            own.takePart(below, 0, below.size);
            reason = find(terms.two[term], binders, deep + 1);
            if (reason != FINE) {
                return reason;
            }
            if (reducer.reduce(below) == OUT) {
                return TOO_MUCH;
            }
            int result = own.endOf(1);
            if (!own.matches(1, result, below, levels)) {
                return WRONG_ARGUMENT;
            }
            below.takePart(own, result, own.size);
            terms.spread(terms.two[term], written);
            return own.fillWith(below, written) ? FINE : TOO_MUCH;
        }

        private int findOfLet(int term, int binders, int deep) {
            Row own = rows[deep];
            Row below = rows[deep + 1];
            int reason = find(terms.one[term], binders, deep + 1);
            if (reason == FINE) {
                reason = needSort(reducer.reduce(below), below);
            }
            if (reason == FINE) {
                reason = find(terms.two[term], binders, deep + 1);
            }
            if (reason != FINE) {
                return reason;
            }
            terms.spread(terms.one[term], own);
            if (reducer.reduce(below) == OUT || reducer.reduce(own) == OUT) {
                return TOO_MUCH;
            }
            if (!own.matches(0, own.size, below, levels)) {
                return WRONG_LET;
            }
            binderType[binders] = terms.one[term];
            reason = find(terms.three[term], binders + 1, deep + 1);
            if (reason != FINE) {
                return reason;
            }
            terms.spread(terms.two[term], written);
            return own.fillWith(below, written) ? FINE : TOO_MUCH;
        }
    }
}
