import java.util.List;

/** Promise 4: drop. */
public final class Promise04Test extends TestBase {
    public static void main(String[] args) {
        axiomGoes();
        thoseBehindHaveANumberLess();
        thoseBehindOfEveryKind();
        howManyAreLeft();
        bad();
        badChangesNothing();
        theLastNumberIsFree();
        due.end();
    }

    private static void axiomGoes() {
        due.sentence("Promise 4: Axiom k goes");
        Counted x = made(6, ax(1, 2, 3, 0), ax(3, 2, 1, 4), ax(4, 1, 4, 5), ax(2, 3, 5, 1));
        due.told("four axioms:", x, sub(2, 1), 3, 3, sub(2, 3), sub(2, 5));
        due.is("drop(0)", x.drop(0), 3);
        due.is("it is silent", x.sub(2, 3), 0);
        due.is("what came of it is not there", x.empty(2), 0);
        due.is("what came without it is there", x.sub(2, 5), 1);
        Counted twice = made(4, ax(1, 2, 3, 0), ax(1, 2, 3, 0));
        twice.drop(0);
        due.told("the same axiom stands once more:", twice, sub(2, 3), 1, 0, sub(2, 2), BAD);
        twice.drop(0);
        due.is("both are gone", twice.sub(2, 3), 0);
    }

    private static void thoseBehindHaveANumberLess() {
        due.sentence("Promise 4: those behind it have a number less");
        for (int k = 0; k < 5; k++) {
            Counted x = made(7, ax(1, 2, 2, 0), ax(1, 3, 2, 0), ax(1, 4, 2, 0), ax(1, 5, 2, 0), ax(1, 6, 2, 0));
            due.is("drop(" + k + ")", x.drop(k), 4);
            for (int j = 1; j < 5; j++) {
                int number = j == k ? BAD : j < k ? j : j - 1;
                due.is("axiom " + j + " without " + k, x.told(sub(2 + j, 2), 1), number);
            }
        }
        Counted full = made(4);
        for (int k = 0; k < AXIOMS - 1; k++) {
            add(full, 7, 0, 0, 0);
        }
        add(full, 1, 2, 3, 0);
        due.is("the 80th", full.told(sub(2, 3), 1), 79);
        for (int left = AXIOMS - 1; left > 0; left--) {
            due.is("drop(0)", full.drop(0), left);
            due.is("the 80th with " + left + " left", full.told(sub(2, 3), 1), left - 1);
        }
    }

    private static void thoseBehindOfEveryKind() {
        due.sentence("Promise 4: those behind it, of every kind, say what they said");
        int[][] all = {ax(1, 2, 3, 0), ax(2, 3, 2, 4), ax(3, 4, 1, 5), ax(4, 1, 5, 6), ax(5, 1, 2, 0), ax(6, 2, 3, 4), ax(7, 3, 0, 0)};
        List<Integer> want = picture(made(7, all));
        for (int k = 0; k <= all.length; k++) {
            Counted x = made(7);
            for (int j = 0; j <= all.length; j++) {
                if (j == k) {
                    add(x, 2, 0, 0, 1);
                }
                if (j < all.length) {
                    add(x, all[j]);
                }
            }
            due.is("everything is empty", x.empty(0), 1);
            due.is("drop(" + k + ")", x.drop(k), all.length);
            due.is("all that follows without " + k, picture(x), want);
        }
    }

    private static void howManyAreLeft() {
        due.sentence("Promise 4: how many are left");
        Counted x = made(3, ax(7, 0, 0, 0), ax(7, 1, 0, 0), ax(7, 2, 0, 0));
        due.is("the first of three", x.drop(0), 2);
        due.is("the last of two", x.drop(1), 1);
        due.is("the only one", x.drop(0), 0);
        due.is("facts() of none", x.facts(), 5);
        due.is("link of the one that was left longest", x.link(2, 1, 2), 0);
    }

    private static void bad() {
        due.sentence("Promise 4: BAD");
        Counted none = new Counted();
        due.is("drop(0) of none", none.drop(0), BAD);
        Counted x = made(4, ax(1, 2, 3, 0), ax(1, 3, 2, 0));
        for (int k : joined(NEVER, 2, 3, 79, 80, 81, 256)) {
            due.is("drop(" + k + ") of two", x.drop(k), BAD);
        }
        due.is("drop(1) of two", x.drop(1), 1);
        due.is("drop(1) of one", x.drop(1), BAD);
        due.is("drop(0) of one", x.drop(0), 0);
        due.is("drop(0) of none", x.drop(0), BAD);
        due.is("drop(-1) of none", x.drop(-1), BAD);
    }

    private static void badChangesNothing() {
        due.sentence("Promise 4: BAD changes nothing");
        Counted x = made(4, ax(1, 2, 3, 0));
        x.trace(sub(2, 3));
        List<Integer> then = picture(x);
        due.is("drop(1)", x.drop(1), BAD);
        due.is("drop(-1)", x.drop(-1), BAD);
        due.is("all that follows", picture(x), then);
        due.rows("the proof:", x, sub(2, 2), sub(2, 3));
        due.is("the next number", x.axiom(1, 3, 2, 0), 1);
    }

    private static void theLastNumberIsFree() {
        due.sentence("Promise 4: the next axiom has the number behind those that are left");
        Counted x = made(4, ax(1, 2, 3, 0), ax(1, 3, 2, 0), ax(7, 0, 0, 0));
        x.drop(0);
        due.is("axiom", x.axiom(1, 2, 3, 0), 2);
        due.told("anew:", x, sub(2, 3), 1, 2, sub(2, 2), BAD);
        due.told("moved:", x, sub(3, 2), 1, 0, sub(3, 3), BAD);
    }
}
