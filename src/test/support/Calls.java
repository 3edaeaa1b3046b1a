/**
 * An ArmExpander whose calls are counted. The document promises nothing after an object's 512th call, so no test may
 * lean on one.
 */
final class Calls {
    static final int MOST = 512;

    /** A test asked an object for more calls than it is promised to answer. */
    static final class Spent extends RuntimeException {
        private static final long serialVersionUID = 1L;
    }

    private final ArmExpander program = new ArmExpander();
    private int made = 0;

    private ArmExpander next() {
        if (made >= MOST) {
            throw new Spent();
        }
        made++;
        return program;
    }

    int left() {
        return MOST - made;
    }

    boolean type(int word, int n) {
        return next().type(word, n);
    }

    int define() {
        return next().define();
    }

    int expand() {
        return next().expand();
    }

    int definitions() {
        return next().definitions();
    }

    int arms(int k) {
        return next().arms(k);
    }

    int token(int k) {
        return next().token(k);
    }

    int mark(int k) {
        return next().mark(k);
    }

    int means(int k) {
        return next().means(k);
    }

    int expansions() {
        return next().expansions();
    }

    int used(int k) {
        return next().used(k);
    }
}
