/** Promise 14: same. */
public final class Promise14Test extends TestBase {
    public static void main(String[] args) {
        itself();
        theLeast();
        theSameAsTopOrBottom();
        asItIsNow();
        theMost();
        bad();
        due.end();
    }

    private static void itself() {
        due.sentence("Promise 14: The least class that is the SAME: itself");
        Counted x = made(CLASSES);
        for (int a = 0; a < CLASSES; a++) {
            due.is("same(" + a + ")", x.same(a), a);
        }
        Counted y = made(4, ax(1, 3, 2, 0));
        due.is("below is not the same", y.same(3), 3);
        due.is("above is not the same", y.same(2), 2);
        Counted z = made(4, ax(1, 2, 1, 0), ax(1, 3, 1, 0));
        due.is("empty classes are not the same", z.same(2), 2);
        due.is("empty classes are not the same", z.same(3), 3);
    }

    private static void theLeast() {
        due.sentence("Promise 14: The least class that is the SAME");
        Counted x = made(7, ax(1, 5, 3, 0), ax(1, 3, 6, 0), ax(1, 6, 5, 0), ax(1, 2, 3, 0));
        int[] want = {0, 1, 2, 3, 4, 3, 3};
        for (int a = 0; a < 7; a++) {
            due.is("same(" + a + ")", x.same(a), want[a]);
        }
    }

    private static void theSameAsTopOrBottom() {
        due.sentence("Promise 14: The least class that is the SAME: TOP, BOTTOM");
        Counted top = made(4, ax(1, 0, 3, 0));
        due.is("as TOP", top.same(3), 0);
        due.is("TOP", top.same(0), 0);
        Counted bottom = made(4, ax(1, 3, 1, 0), ax(1, 1, 3, 0));
        due.is("as BOTTOM", bottom.same(3), 1);
        due.is("BOTTOM", bottom.same(1), 1);
        Counted both = made(4, ax(1, 0, 1, 0));
        due.is("BOTTOM as TOP", both.same(1), 0);
        due.is("an empty class", both.same(3), 3);
    }

    private static void asItIsNow() {
        due.sentence("Promise 14: as it is now");
        Counted x = made(4, ax(1, 2, 3, 0));
        due.is("before", x.same(3), 3);
        x.axiom(1, 3, 2, 0);
        due.is("behind axiom", x.same(3), 2);
        x.drop(0);
        due.is("behind drop", x.same(3), 3);
    }

    private static void theMost() {
        due.sentence("Promise 14: The least class that is the SAME, when all are");
        Counted x = everythingFollows();
        for (int a = 0; a < CLASSES; a++) {
            due.is("same(" + a + ")", x.same(a), 0);
        }
    }

    private static void bad() {
        due.sentence("Promise 14: BAD");
        Counted x = made(4, ax(1, 0, 2, 0));
        for (int a : noClasses(4)) {
            due.is("same(" + a + ")", x.same(a), BAD);
        }
        x.grow();
        due.is("the class that came", x.same(4), 4);
        Counted all = everythingFollows();
        due.is("same(24)", all.same(24), BAD);
    }
}
