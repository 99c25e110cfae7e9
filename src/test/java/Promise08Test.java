/** Promise 8: facts. */
public final class Promise08Test extends TestBase {
    public static void main(String[] args) {
        theFewest();
        howManyFactsFollow();
        asItIsNow();
        theMost();
        due.end();
    }

    private static void theFewest() {
        due.sentence("Promise 8: How many facts follow, of a new object");
        due.is("facts()", new Counted().facts(), 3);
    }

    private static void howManyFactsFollow() {
        due.sentence("Promise 8: How many facts follow");
        for (int classes = 2; classes <= CLASSES; classes++) {
            due.is("of " + classes + " classes", made(classes).facts(), 2 * classes - 1);
            due.is("and a role", made(classes, ax(7, 5, 0, 0)).facts(), 3 * classes - 1);
        }
        due.is("the same axiom twice", made(4, ax(1, 2, 3, 0), ax(1, 2, 3, 0)).facts(), 8);
        due.is("a SUB of round 0", made(4, ax(1, 2, 0, 0)).facts(), 7);
        due.is("a SUB and a LINK", made(4, ax(1, 2, 3, 0), ax(3, 3, 0, 2)).facts(), 7 + 1 + 2);
        countOneByOne(made(4, ax(1, 2, 3, 0), ax(3, 3, 0, 2), ax(6, 0, 0, 1), ax(2, 3, 0, 1)));
    }

    private static void countOneByOne(Counted x) {
        int count = 0;
        for (int a = 0; a < 4; a++) {
            for (int b = 0; b < 4; b++) {
                count += x.sub(a, b);
                for (int r = 0; r < ROLES; r++) {
                    count += x.link(a, r, b);
                }
            }
        }
        due.is("counted one by one", x.facts(), count);
    }

    private static void asItIsNow() {
        due.sentence("Promise 8: the facts that there are now");
        Counted x = made(4);
        due.is("before", x.facts(), 7);
        x.grow();
        due.is("behind grow", x.facts(), 9);
        x.axiom(1, 2, 3, 0);
        due.is("behind axiom", x.facts(), 10);
        x.axiom(1, 3, 2, 0);
        due.is("behind axiom", x.facts(), 11);
        x.drop(0);
        due.is("behind drop", x.facts(), 10);
        x.axiom(1, 9, 2, 0);
        x.drop(9);
        due.is("behind calls that are refused", x.facts(), 10);
    }

    private static void theMost() {
        due.sentence("Promise 8: How many facts follow, when all do");
        Counted x = everythingFollows();
        due.is("facts()", x.facts(), 24 * 24 + 24 * 6 * 24);
        x.drop(0);
        due.is("facts() without 1 TOP BOTTOM: BOTTOM's rule gives the same", x.facts(), CODES);
    }
}
