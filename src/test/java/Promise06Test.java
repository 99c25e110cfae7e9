/** Promise 6: link. */
public final class Promise06Test extends TestBase {
    public static void main(String[] args) {
        oneOrZero();
        asItIsNow();
        bad();
        badWhereTheCodeWouldFollow();
        due.end();
    }

    private static void oneOrZero() {
        due.sentence("Promise 6: Whether LINK a r b follows");
        Counted x = made(4, ax(3, 2, 5, 3), ax(7, 0, 0, 0));
        for (int a = 0; a < 4; a++) {
            for (int r = 0; r < ROLES; r++) {
                for (int b = 0; b < 4; b++) {
                    boolean follows = a == 2 && r == 5 && b == 3 || r == 0 && a == b;
                    due.is("link(" + a + ", " + r + ", " + b + ")", x.link(a, r, b), follows ? 1 : 0);
                }
            }
        }
    }

    private static void asItIsNow() {
        due.sentence("Promise 6: it follows from the axioms that there are now");
        Counted x = made(4);
        due.is("no axiom", x.link(2, 4, 3), 0);
        x.axiom(3, 2, 4, 3);
        due.is("an axiom", x.link(2, 4, 3), 1);
        x.drop(0);
        due.is("no axiom any more", x.link(2, 4, 3), 0);
    }

    private static void bad() {
        due.sentence("Promise 6: BAD");
        Counted x = made(4, ax(3, 2, 5, 3));
        for (int a : noClasses(4)) {
            due.is("link(" + a + ", 0, 0)", x.link(a, 0, 0), BAD);
            due.is("link(" + a + ", 5, 3)", x.link(a, 5, 3), BAD);
            due.is("link(0, 0, " + a + ")", x.link(0, 0, a), BAD);
            due.is("link(2, 5, " + a + ")", x.link(2, 5, a), BAD);
        }
        for (int r : noRoles()) {
            due.is("link(0, " + r + ", 0)", x.link(0, r, 0), BAD);
            due.is("link(2, " + r + ", 3)", x.link(2, r, 3), BAD);
        }
        Counted all = made(CLASSES);
        due.is("link(23, 5, 23)", all.link(23, 5, 23), 0);
        due.is("link(24, 5, 23)", all.link(24, 5, 23), BAD);
        due.is("link(23, 6, 23)", all.link(23, 6, 23), BAD);
        due.is("link(23, 5, 24)", all.link(23, 5, 24), BAD);
    }

    private static void badWhereTheCodeWouldFollow() {
        due.sentence("Promise 6: BAD, be the code one that follows");
        Counted x = everythingFollows();
        due.is("link(3, 0, 2)", x.link(3, 0, 2), 1);
        due.is("link(2, 6, 2)", x.link(2, 6, 2), BAD);
        due.is("link(4, -6, 2)", x.link(4, -6, 2), BAD);
        due.is("link(3, -1, 26)", x.link(3, -1, 26), BAD);
        due.is("link(3, 1, -22)", x.link(3, 1, -22), BAD);
        due.is("link(-4, 0, 0), with the code of a SUB", x.link(-4, 0, 0), BAD);
        due.is("link(2^29, 0, 2), whose code wraps around", x.link(1 << 29, 0, 2), BAD);
        due.is("link(0, 2^29, 2), whose code wraps around", x.link(0, 1 << 29, 2), BAD);
    }
}
