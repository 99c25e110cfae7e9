/** Objects that the tests begin with. */
final class Make {
    private Make() {
    }

    /** As many classes in all, and axioms as rows of kind, a, b, c, of which none may be refused. */
    static ElCompletion made(int classes, int[]... axioms) {
        ElCompletion x = new ElCompletion();
        for (int a = 2; a < classes; a++) {
            x.grow();
        }
        for (int[] n : axioms) {
            if (x.axiom(n[0], n[1], n[2], n[3]) < 0) {
                throw new IllegalStateException("the test's own axiom is refused");
            }
        }
        return x;
    }
}
