/** Promise 1: a new object. */
public final class Promise01Test extends TestBase {
    public static void main(String[] args) {
        constants();
        topAndBottomAlone();
        noAxioms();
        nothingOfAnotherObject();
        due.end();
    }

    private static void constants() {
        due.sentence("Promise 1, the face: BAD = -1, FULL = -2");
        due.is("BAD", ElCompletion.BAD, -1);
        due.is("FULL", ElCompletion.FULL, -2);
    }

    private static void topAndBottomAlone() {
        due.sentence("Promise 1: TOP and BOTTOM alone");
        Counted x = new Counted();
        due.is("sub(0, 0)", x.sub(0, 0), 1);
        due.is("sub(0, 1)", x.sub(0, 1), 0);
        due.is("sub(1, 0)", x.sub(1, 0), 1);
        due.is("sub(1, 1)", x.sub(1, 1), 1);
        for (int a : noClasses(2)) {
            due.is("empty(" + a + ")", x.empty(a), BAD);
        }
        due.facts("new:", x, sub(0, 0), sub(1, 0), sub(1, 1));
        due.is("the first class more", x.grow(), 2);
    }

    private static void noAxioms() {
        due.sentence("Promise 1: no axioms");
        Counted x = new Counted();
        due.is("drop(0)", x.drop(0), BAD);
        due.is("rounds()", x.rounds(), 1);
        due.is("row(0), without a proof", x.row(0), BAD);
        for (int r = 0; r < ROLES; r++) {
            due.is("link(0, " + r + ", 0)", x.link(0, r, 0), 0);
            due.is("link(1, " + r + ", 1)", x.link(1, r, 1), 0);
        }
        due.is("the first axiom", x.axiom(7, 0, 0, 0), 0);
    }

    private static void nothingOfAnotherObject() {
        due.sentence("Promise 1: a new object has nothing of another one");
        Counted x = made(4, ax(1, 2, 3, 0));
        x.trace(sub(2, 3));
        Counted y = new Counted();
        due.is("sub(2, 3) of the new one", y.sub(2, 3), BAD);
        due.is("row(0) of the new one", y.row(0), BAD);
        due.is("drop(0) of the new one", y.drop(0), BAD);
        y.grow();
        y.axiom(1, 0, 2, 0);
        y.trace(sub(0, 0));
        due.is("sub(0, 2) of the old one", x.sub(0, 2), 0);
        due.rows("the old one:", x, sub(2, 2), sub(2, 3));
    }
}
