/** Promise 5: sub. */
public final class Promise05Test extends TestBase {
    public static void main(String[] args) {
        oneOrZero();
        asItIsNow();
        badWhenOneIsNoClass();
        badWhereTheCodeWouldFollow();
        due.end();
    }

    private static void oneOrZero() {
        due.sentence("Promise 5: Whether SUB a b follows: 1 or 0");
        Counted x = made(5, ax(1, 2, 3, 0), ax(1, 3, 4, 0), ax(1, 4, 1, 0));
        int[] above = {0b00001, 0b00011, 0b11111, 0b11011, 0b10011};
        for (int a = 0; a < 5; a++) {
            for (int b = 0; b < 5; b++) {
                due.is("sub(" + a + ", " + b + ")", x.sub(a, b), above[a] >> b & 1);
            }
        }
    }

    private static void asItIsNow() {
        due.sentence("Promise 5: it follows from the axioms that there are now");
        Counted x = made(4);
        due.is("no axiom", x.sub(2, 3), 0);
        x.axiom(1, 2, 3, 0);
        due.is("an axiom", x.sub(2, 3), 1);
        x.drop(0);
        due.is("no axiom any more", x.sub(2, 3), 0);
    }

    private static void badWhenOneIsNoClass() {
        due.sentence("Promise 5: BAD when one is no class");
        for (int a : noClasses(4)) {
            Counted x = made(4, ax(1, 2, 3, 0));
            due.is("sub(" + a + ", 0)", x.sub(a, 0), BAD);
            due.is("sub(" + a + ", 3)", x.sub(a, 3), BAD);
            due.is("sub(0, " + a + ")", x.sub(0, a), BAD);
            due.is("sub(2, " + a + ")", x.sub(2, a), BAD);
            due.is("sub(" + a + ", " + a + ")", x.sub(a, a), BAD);
        }
        Counted all = made(CLASSES);
        due.is("sub(23, 23)", all.sub(23, 23), 1);
        due.is("sub(23, 24)", all.sub(23, 24), BAD);
        due.is("sub(24, 0)", all.sub(24, 0), BAD);
    }

    private static void badWhereTheCodeWouldFollow() {
        due.sentence("Promise 5: BAD when one is no class, be the code one that follows");
        Counted x = everythingFollows();
        due.is("sub(2, 3)", x.sub(2, 3), 1);
        due.is("sub(1, 27)", x.sub(1, 27), BAD);
        due.is("sub(3, -21)", x.sub(3, -21), BAD);
        due.is("sub(-1, 75)", x.sub(-1, 75), BAD);
        due.is("sub(24, 5)", x.sub(24, 5), BAD);
        due.is("sub(2^29, 5), whose code wraps around", x.sub(1 << 29, 5), BAD);
    }
}
