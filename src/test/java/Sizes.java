/** A world with what types of a wanted size are made of: pred of two of N, and add of two of N. */
final class Sizes {
    final World w = new World();
    final int pred = w.axiom(0, w.pi(w.n, w.pi(w.n, w.prop))), add = w.axiom(0, w.pi(w.n, w.nn));

    /** A type of this size. */
    int typeOf(int size) {
        if (size % 2 == 0) return w.x.let(w.n, w.z, typeOf(size - 3));
        return w.app(pred, w.ofSize(size - 4), w.z);
    }

    /** A name of type PI N B, where B has this size, and VARIABLE 0 three times in it. */
    int withThree(int size) {
        int three = w.app(add, w.app(add, w.v0, w.v0), w.v0);
        return w.axiom(0, w.pi(w.n, w.app(pred, three, w.ofSize(size - 12))));
    }

    /** A term of N of this even size. */
    int even(int size) {
        return w.x.let(w.n, w.z, w.ofSize(size - 3));
    }
}
