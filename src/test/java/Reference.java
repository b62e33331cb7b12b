import java.util.ArrayList;
import java.util.HashMap;
import java.util.List;
import java.util.Map;

/**
 * The document once more, in the most naive form: trees that are never changed, plain recursion,
 * levels compared by trying values. It shares no idea of TypeKernel's and is only there to be
 * compared with it.
 */
final class Reference {
    static final int NONE = -1, OUT = -6;
    static final int ZERO = 0, UP = 1, MAX = 2, IMAX = 3, PARAMETER = 4;
    static final int SORT = 0, VARIABLE = 1, NAME = 2, PI = 3, LAMBDA = 4, APPLY = 5, LET = 6;

    static final class Level {
        final int kind, parameter;
        final Level a, b;
        final int size;
        final String text;

        Level(int kind, int parameter, Level a, Level b) {
            this.kind = kind;
            this.parameter = parameter;
            this.a = a;
            this.b = b;
            size = 1 + (a == null ? 0 : a.size) + (b == null ? 0 : b.size);
            text = kind == PARAMETER ? "p" + parameter
                : "(" + kind + (a == null ? "" : a.text) + (b == null ? "" : b.text) + ")";
        }

        int at(int[] p) {
            switch (kind) {
                case ZERO: return 0;
                case UP: return a.at(p) + 1;
                case MAX: return Math.max(a.at(p), b.at(p));
                case IMAX: return b.at(p) == 0 ? 0 : Math.max(a.at(p), b.at(p));
                default: return p[parameter];
            }
        }

        boolean has(int p) {
            return kind == PARAMETER ? parameter == p : a != null && a.has(p) || b != null && b.has(p);
        }

        Level given(Level first, Level second) {
            if (kind == PARAMETER) {
                return parameter == 0 ? first : parameter == 1 ? second : this;
            }
            return a == null ? this : new Level(kind, 0, a.given(first, second), b == null ? null : b.given(first, second));
        }
    }

    static final class Term {
        final int kind, i;
        final Level first, second;
        final Term[] parts;
        final int size;
        final String text;

        Term(int kind, int i, Level first, Level second, Term... parts) {
            this.kind = kind;
            this.i = i;
            this.first = first;
            this.second = second;
            this.parts = parts;
            int n = 1;
            StringBuilder s = new StringBuilder("[").append(kind).append(' ').append(i);
            if (first != null) s.append(first.text);
            if (second != null) s.append(second.text);
            for (Term t : parts) {
                n += t.size;
                if (n < 2000) s.append(t.text);
            }
            size = n;
            text = s.append(']').toString();
        }

        /** Whether the last part is below a binder. */
        boolean binds() {
            return kind == PI || kind == LAMBDA || kind == LET;
        }

        int deeper(int part) {
            return binds() && part == parts.length - 1 ? 1 : 0;
        }

        Term of(Term... newParts) {
            return new Term(kind, i, first, second, newParts);
        }

        Term shift(int by, int from) {
            if (kind == VARIABLE) return i >= from ? var(i + by) : this;
            Term[] p = new Term[parts.length];
            for (int k = 0; k < p.length; k++) p[k] = parts[k].shift(by, from + deeper(k));
            return p.length == 0 ? this : of(p);
        }

        Term with(Term v, int at) {
            if (kind == VARIABLE) return i == at ? v.shift(at, 0) : i > at ? var(i - 1) : this;
            Term[] p = new Term[parts.length];
            for (int k = 0; k < p.length; k++) p[k] = parts[k].with(v, at + deeper(k));
            return p.length == 0 ? this : of(p);
        }

        boolean uses(int at) {
            if (kind == VARIABLE) return i == at;
            for (int k = 0; k < parts.length; k++) if (parts[k].uses(at + deeper(k))) return true;
            return false;
        }

        int open() {
            if (kind == VARIABLE) return i + 1;
            int most = 0;
            for (int k = 0; k < parts.length; k++) most = Math.max(most, parts[k].open() - deeper(k));
            return most;
        }

        int largestLevel() {
            int most = Math.max(first == null ? 0 : first.size, second == null ? 0 : second.size);
            for (Term t : parts) most = Math.max(most, t.largestLevel());
            return most;
        }

        boolean tooLarge() {
            return size > 200 || largestLevel() > 16;
        }

        boolean hasParameterFrom(int n) {
            for (int p = n; p < 3; p++) {
                if (first != null && first.has(p) || second != null && second.has(p)) return true;
            }
            for (Term t : parts) if (t.hasParameterFrom(n)) return true;
            return false;
        }

        Term given(Level a, Level b) {
            Term[] p = new Term[parts.length];
            for (int k = 0; k < p.length; k++) p[k] = parts[k].given(a, b);
            return new Term(kind, i, first == null ? null : first.given(a, b), second == null ? null : second.given(a, b), p);
        }

        /** All LAMBDA A (APPLY f (VARIABLE 0)), from within outward. */
        Term shrunk() {
            Term[] p = new Term[parts.length];
            for (int k = 0; k < p.length; k++) p[k] = parts[k].shrunk();
            if (kind == LAMBDA && p[1].kind == APPLY) {
                Term f = p[1].parts[0], a = p[1].parts[1];
                if (a.kind == VARIABLE && a.i == 0 && !f.uses(0)) return f.shift(-1, 0);
            }
            return of(p);
        }
    }

    static Term var(int i) {
        return new Term(VARIABLE, i, null, null);
    }

    static Term sortOf(Level l) {
        return new Term(SORT, 0, l, null);
    }

    private static final class Refused extends Exception {
        private static final long serialVersionUID = 1;
        final int reason;

        Refused(int reason) {
            super("reason " + reason, null, false, false);
            this.reason = reason;
        }
    }

    private final List<Level> levels = new ArrayList<>();
    private final List<Term> terms = new ArrayList<>();
    private final List<int[]> names = new ArrayList<>();
    private final Map<String, Integer> levelNumbers = new HashMap<>();
    private final Map<String, Integer> termNumbers = new HashMap<>();
    private final Map<String, Boolean> compared = new HashMap<>();
    private int stepsTaken;

    Reference() {
        clear();
    }

    int level(int kind, int a, int b) {
        if (kind < 1 || kind > 4) throw new IllegalArgumentException();
        if (kind == PARAMETER) {
            if (a < 0 || a > 2) throw new IllegalArgumentException();
            return asked(new Level(kind, a, null, null));
        }
        Level x = levelAt(a);
        return asked(new Level(kind, 0, x, kind == UP ? null : levelAt(b)));
    }

    boolean atMost(int a, int b) {
        return atMost(levelAt(a), levelAt(b));
    }

    int value(int level, int p, int q, int r) {
        Level l = levelAt(level);
        for (int x : new int[] {p, q, r}) if (x < 0 || x > 1000) throw new IllegalArgumentException();
        return l.at(new int[] {p, q, r});
    }

    int sort(int level) {
        return asked(sortOf(levelAt(level)));
    }

    int variable(int i) {
        if (i < 0 || i > 59) throw new IllegalArgumentException();
        return asked(var(i));
    }

    int name(int c, int first, int second) {
        nameAt(c);
        return asked(new Term(NAME, c, levelAt(first), levelAt(second)));
    }

    int term(int kind, int a, int b) {
        if (kind < PI || kind > APPLY) throw new IllegalArgumentException();
        return asked(new Term(kind, 0, null, null, termAt(a), termAt(b)));
    }

    int let(int type, int v, int b) {
        return asked(new Term(LET, 0, null, null, termAt(type), termAt(v), termAt(b)));
    }

    int type(int term) {
        Term t = termAt(term);
        try {
            return answered(typed(t, new ArrayList<>()));
        } catch (Refused e) {
            return NONE - e.reason;
        }
    }

    int normal(int term) {
        Term n = normalForm(termAt(term));
        return n == null ? OUT : answered(n);
    }

    int steps(int term) {
        return normalForm(termAt(term)) == null ? OUT : stepsTaken;
    }

    int same(int a, int b) {
        Term x = termAt(a), y = termAt(b);
        x = normalForm(x);
        y = normalForm(y);
        return x == null || y == null ? OUT : areSame(x, y) ? 1 : 0;
    }

    int declare(int parameters, int type, int v) {
        if (parameters < 0 || parameters > 2) throw new IllegalArgumentException();
        Term t = termAt(type);
        Term value = v == NONE ? null : termAt(v);
        if (names.size() >= 40) throw new UnsupportedOperationException();
        if (t.hasParameterFrom(parameters) || value != null && value.hasParameterFrom(parameters)) return -9;
        try {
            needSort(t, new ArrayList<>());
            if (value != null) {
                Term found = needNormal(typed(value, new ArrayList<>()));
                if (!areSame(found, needNormal(t))) return -8;
            }
        } catch (Refused e) {
            return NONE - e.reason;
        }
        names.add(new int[] {parameters, type, v});
        return names.size() - 1;
    }

    int part(int term, int what) {
        Term t = termAt(term);
        switch (what) {
            case 0: return t.kind;
            case 1: return t.kind == SORT ? number(t.first) : t.parts.length == 0 ? t.i : number(t.parts[0]);
            case 2: return t.kind == NAME ? number(t.first) : t.parts.length == 0 ? NONE : number(t.parts[1]);
            case 3: return t.kind == NAME ? number(t.second) : t.parts.length < 3 ? NONE : number(t.parts[2]);
            case 4: return t.size;
            case 5: return t.open();
            default: throw new IllegalArgumentException();
        }
    }

    int levelPart(int level, int what) {
        Level l = levelAt(level);
        switch (what) {
            case 0: return l.kind;
            case 1: return l.kind == PARAMETER ? l.parameter : l.a == null ? NONE : number(l.a);
            case 2: return l.b == null ? NONE : number(l.b);
            case 3: return l.size;
            default: throw new IllegalArgumentException();
        }
    }

    int declared(int name, int what) {
        nameAt(name);
        if (what < 0 || what > 2) throw new IllegalArgumentException();
        return names.get(name)[what];
    }

    int told(int what) {
        return what == 0 ? levels.size() : what == 1 ? terms.size() : what == 2 ? names.size() : NONE;
    }

    void clear() {
        levels.clear();
        terms.clear();
        names.clear();
        levelNumbers.clear();
        termNumbers.clear();
        number(new Level(ZERO, 0, null, null));
    }

    /** What a caller that wants good terms looks at: 0, or the reason against a term that is not numbered. */
    int reasonAgainst(int kind, int... parts) {
        Term[] p = new Term[parts.length];
        for (int k = 0; k < p.length; k++) p[k] = terms.get(parts[k]);
        Term t = new Term(kind, 0, null, null, p);
        if (t.size > 60) return 5;
        try {
            typed(t, new ArrayList<>());
            return 0;
        } catch (Refused e) {
            return e.reason;
        }
    }

    private Level levelAt(int i) {
        if (i < 0 || i >= levels.size()) throw new IndexOutOfBoundsException();
        return levels.get(i);
    }

    private Term termAt(int i) {
        if (i < 0 || i >= terms.size()) throw new IndexOutOfBoundsException();
        return terms.get(i);
    }

    private void nameAt(int i) {
        if (i < 0 || i >= names.size()) throw new IndexOutOfBoundsException();
    }

    private int asked(Level l) {
        if (l.size > 8 || !levelNumbers.containsKey(l.text) && levels.size() >= 300) throw new UnsupportedOperationException();
        return number(l);
    }

    private int asked(Term t) {
        if (t.size > 60 || !termNumbers.containsKey(t.text) && terms.size() >= 1500) throw new UnsupportedOperationException();
        return number(t);
    }

    private int answered(Term t) {
        int levelsBefore = levels.size(), termsBefore = terms.size();
        int n = number(t);
        if (levels.size() > 300 || terms.size() > 1500) {
            while (levels.size() > levelsBefore) levelNumbers.remove(levels.remove(levels.size() - 1).text);
            while (terms.size() > termsBefore) termNumbers.remove(terms.remove(terms.size() - 1).text);
            throw new UnsupportedOperationException();
        }
        return n;
    }

    private int number(Level l) {
        if (l.a != null) number(l.a);
        if (l.b != null) number(l.b);
        Integer n = levelNumbers.get(l.text);
        if (n == null) {
            n = levels.size();
            levelNumbers.put(l.text, n);
            levels.add(l);
        }
        return n;
    }

    private int number(Term t) {
        if (t.first != null) number(t.first);
        if (t.second != null) number(t.second);
        for (Term p : t.parts) number(p);
        Integer n = termNumbers.get(t.text);
        if (n == null) {
            n = terms.size();
            termNumbers.put(t.text, n);
            terms.add(t);
        }
        return n;
    }

    private boolean atMost(Level a, Level b) {
        String key = a.text + "<" + b.text;
        Boolean known = compared.get(key);
        if (known == null) {
            known = tryAll(a, b);
            compared.put(key, known);
        }
        return known;
    }

    /** A parameter that is in neither level counts nothing; above 17 no level of size 16 tells anything new. */
    private static boolean tryAll(Level a, Level b) {
        int[] top = new int[3];
        for (int k = 0; k < 3; k++) top[k] = a.has(k) || b.has(k) ? 18 : 0;
        int[] p = new int[3];
        for (p[0] = 0; p[0] <= top[0]; p[0]++) {
            for (p[1] = 0; p[1] <= top[1]; p[1]++) {
                for (p[2] = 0; p[2] <= top[2]; p[2]++) {
                    if (a.at(p) > b.at(p)) return false;
                }
            }
        }
        return true;
    }

    private boolean areSame(Level a, Level b) {
        return a == null ? b == null : b != null && (a.text.equals(b.text) || atMost(a, b) && atMost(b, a));
    }

    private boolean areSame(Term x, Term y) {
        if (x.kind != y.kind || x.i != y.i || !areSame(x.first, y.first) || !areSame(x.second, y.second)) return false;
        for (int k = 0; k < x.parts.length; k++) if (!areSame(x.parts[k], y.parts[k])) return false;
        return true;
    }

    private Term step(Term t) {
        if (t.kind == APPLY && t.parts[0].kind == LAMBDA) return t.parts[0].parts[1].with(t.parts[1], 0);
        if (t.kind == LET) return t.parts[2].with(t.parts[1], 0);
        if (t.kind == NAME && names.get(t.i)[2] != NONE) return terms.get(names.get(t.i)[2]).given(t.first, t.second);
        for (int k = 0; k < t.parts.length; k++) {
            Term s = step(t.parts[k]);
            if (s != null) {
                Term[] p = t.parts.clone();
                p[k] = s;
                return t.of(p);
            }
        }
        return null;
    }

    /** Null for OUT. */
    private Term normalForm(Term t) {
        stepsTaken = 0;
        for (Term s = step(t); s != null; s = step(t)) {
            stepsTaken++;
            if (stepsTaken > 30 || s.tooLarge()) return null;
            t = s;
        }
        return t.shrunk();
    }

    private Term needNormal(Term t) throws Refused {
        Term n = normalForm(t);
        if (n == null) throw new Refused(5);
        return n;
    }

    private Level needSort(Term t, List<Term> binders) throws Refused {
        Term n = needNormal(typed(t, binders));
        if (n.kind != SORT) throw new Refused(4);
        return n.first;
    }

    private Term typed(Term t, List<Term> binders) throws Refused {
        Term type = typeOf(t, binders);
        if (type.tooLarge()) throw new Refused(5);
        return type;
    }

    private static List<Term> below(List<Term> binders, Term a) {
        List<Term> more = new ArrayList<>(binders);
        more.add(a);
        return more;
    }

    private Term typeOf(Term t, List<Term> binders) throws Refused {
        switch (t.kind) {
            case SORT: return sortOf(new Level(UP, 0, t.first, null));
            case VARIABLE: {
                if (t.i >= binders.size()) throw new Refused(1);
                return binders.get(binders.size() - 1 - t.i).shift(t.i + 1, 0);
            }
            case NAME: return terms.get(names.get(t.i)[1]).given(t.first, t.second);
            case PI: {
                Level p = needSort(t.parts[0], binders);
                Level q = needSort(t.parts[1], below(binders, t.parts[0]));
                return sortOf(new Level(IMAX, 0, p, q));
            }
            case LAMBDA: {
                needSort(t.parts[0], binders);
                return new Term(PI, 0, null, null, t.parts[0], typed(t.parts[1], below(binders, t.parts[0])));
            }
            case APPLY: {
                Term f = needNormal(typed(t.parts[0], binders));
                if (f.kind != PI) throw new Refused(2);
                Term a = needNormal(typed(t.parts[1], binders));
                if (!areSame(f.parts[0], a)) throw new Refused(3);
                return f.parts[1].with(t.parts[1], 0);
            }
            default: {
                needSort(t.parts[0], binders);
                Term v = needNormal(typed(t.parts[1], binders));
                if (!areSame(v, needNormal(t.parts[0]))) throw new Refused(6);
                return typed(t.parts[2], below(binders, t.parts[0])).with(t.parts[1], 0);
            }
        }
    }
}
