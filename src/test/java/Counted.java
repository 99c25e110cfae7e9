/** An object and its calls: the document promises nothing behind the 512th, so no test may make it. */
final class Counted {
    static final int MOST_CALLS = 512;
    private final ElCompletion x = new ElCompletion();
    private int calls = 0;

    int callsLeft() {
        return MOST_CALLS - calls;
    }

    private ElCompletion used() {
        if (calls >= MOST_CALLS) {
            throw new IllegalStateException("the test itself makes more than 512 calls");
        }
        calls++;
        return x;
    }

    int grow() {
        return used().grow();
    }

    int axiom(int kind, int a, int b, int c) {
        return used().axiom(kind, a, b, c);
    }

    int drop(int k) {
        return used().drop(k);
    }

    int sub(int a, int b) {
        return used().sub(a, b);
    }

    int link(int a, int r, int b) {
        return used().link(a, r, b);
    }

    int rounds() {
        return used().rounds();
    }

    int facts() {
        return used().facts();
    }

    int fact(int i) {
        return used().fact(i);
    }

    int told(int code, int what) {
        return used().told(code, what);
    }

    int trace(int code) {
        return used().trace(code);
    }

    int row(int i) {
        return used().row(i);
    }

    int empty(int a) {
        return used().empty(a);
    }

    int same(int a) {
        return used().same(a);
    }

    int parent(int a, int i) {
        return used().parent(a, i);
    }
}
