/** A hall that counts its calls: what is answered beyond the 512th is free, so that no test may lean on it. */
final class Counted {
    private static final int MOST_CALLS = 512;

    private final CallerHall hall = new CallerHall();
    private int calls;

    private CallerHall use() {
        calls++;
        if (calls == MOST_CALLS + 1) {
            Dance.due("calls of one hall", calls, MOST_CALLS);
        }
        return hall;
    }

    int calls() {
        return calls;
    }

    boolean feed(int a, int b, int c, int d, int e) {
        return use().feed(a, b, c, d, e);
    }

    boolean end(int n) {
        return use().end(n);
    }

    int load() {
        return use().load();
    }

    int call() {
        return use().call();
    }

    int fault() {
        return use().fault();
    }

    int named(int sort) {
        return use().named(sort);
    }

    boolean set(int kind, int n) {
        return use().set(kind, n);
    }

    void mark() {
        use().mark();
    }

    boolean begin(int part) {
        return use().begin(part);
    }

    int step() {
        return use().step();
    }

    boolean back(int n) {
        return use().back(n);
    }

    int failed(int i) {
        return use().failed(i);
    }

    int may(int i) {
        return use().may(i);
    }

    int resolve(int depth) {
        return use().resolve(depth);
    }

    long rows() {
        return use().rows();
    }

    boolean row(int k) {
        return use().row(k);
    }

    boolean draw(int a, int b) {
        return use().draw(a, b);
    }

    int cheapest() {
        return use().cheapest();
    }

    int found(int i) {
        return use().found(i);
    }

    int follow() {
        return use().follow();
    }

    int times(int part, int kind, int n) {
        return use().times(part, kind, n);
    }

    int dancer(int d, int what) {
        return use().dancer(d, what);
    }

    int at(int x, int y) {
        return use().at(x, y);
    }

    int about(int what) {
        return use().about(what);
    }
}
