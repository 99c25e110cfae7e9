/** Promise 13: empty. */
public final class Promise13Test extends TestBase {
    public static void main(String[] args) {
        bottomIsTopIsNot();
        oneOrZero();
        topToo();
        asItIsNow();
        bad();
        due.end();
    }

    private static void bottomIsTopIsNot() {
        due.sentence("Promise 13: Whether a class is EMPTY, of a new object");
        Counted x = new Counted();
        due.is("empty(0)", x.empty(0), 0);
        due.is("empty(1)", x.empty(1), 1);
    }

    private static void oneOrZero() {
        due.sentence("Promise 13: Whether a class is EMPTY: 1 or 0");
        Counted x = made(7, ax(3, 2, 0, 3), ax(2, 3, 4, 1), ax(1, 3, 4, 0), ax(1, 6, 2, 0));
        int[] want = {0, 1, 1, 1, 0, 0, 1};
        for (int a = 0; a < 7; a++) {
            due.is("empty(" + a + ")", x.empty(a), want[a]);
        }
        for (int r = 0; r < ROLES; r++) {
            due.is("by role " + r, made(3, ax(3, 2, r, 1)).empty(2), 1);
        }
        due.is("what is below an empty class is empty", made(4, ax(1, 3, 1, 0), ax(1, 2, 3, 0)).empty(2), 1);
        due.is("what is above an empty class is not", made(4, ax(1, 3, 1, 0), ax(1, 3, 2, 0)).empty(2), 0);
        due.is("SUB 1 a does not do it", made(3, ax(1, 1, 2, 0)).empty(2), 0);
    }

    private static void topToo() {
        due.sentence("Promise 13: Whether a class is EMPTY: all may be");
        Counted x = made(CLASSES, ax(1, 0, 1, 0));
        for (int a = 0; a < CLASSES; a++) {
            due.is("empty(" + a + ")", x.empty(a), 1);
        }
    }

    private static void asItIsNow() {
        due.sentence("Promise 13: as it is now");
        Counted x = made(3, ax(1, 2, 1, 0));
        due.is("before", x.empty(2), 1);
        x.drop(0);
        due.is("behind drop", x.empty(2), 0);
        due.is("BOTTOM", x.empty(1), 1);
        x.axiom(1, 2, 1, 0);
        due.is("behind axiom", x.empty(2), 1);
    }

    private static void bad() {
        due.sentence("Promise 13: BAD");
        Counted x = made(4, ax(1, 0, 1, 0));
        for (int a : noClasses(4)) {
            due.is("empty(" + a + ")", x.empty(a), BAD);
        }
        x.grow();
        due.is("the class that came", x.empty(4), 1);
        Counted all = made(CLASSES);
        due.is("empty(23)", all.empty(23), 0);
        due.is("empty(24)", all.empty(24), BAD);
    }
}
