/** Promise 12: row. */
public final class Promise12Test extends TestBase {
    public static void main(String[] args) {
        rowI();
        badWithoutAProof();
        badWhenThereIsNone();
        theLatestProof();
        badBehindAProofOfNothing();
        asItWasThen();
        asItWasThenBehindEveryCall();
        due.end();
    }

    private static Counted small() {
        return made(6, ax(3, 2, 0, 3), ax(1, 3, 4, 0), ax(4, 0, 4, 5), ax(1, 5, 1, 0));
    }

    /** Of SUB 2 5 in small. */
    private static final int[] ROWS = {sub(2, 2), sub(3, 3), sub(3, 4), link(2, 0, 3), sub(2, 5)};

    private static void rowI() {
        due.sentence("Promise 12: The code of row i of the latest proof");
        Counted x = small();
        x.trace(sub(2, 5));
        for (int i = ROWS.length - 1; i >= 0; i--) {
            due.is("row(" + i + ")", x.row(i), ROWS[i]);
            due.is("row(" + i + ") again", x.row(i), ROWS[i]);
        }
    }

    private static void badWithoutAProof() {
        due.sentence("Promise 12: BAD when there is none: no proof yet");
        Counted x = new Counted();
        Counted y = small();
        y.facts();
        for (int i : joined(NEVER, 0, 1, 2, 5, 4031, 4032)) {
            due.is("row(" + i + ") of a new object", x.row(i), BAD);
            due.is("row(" + i + ") without a trace", y.row(i), BAD);
        }
    }

    private static void badWhenThereIsNone() {
        due.sentence("Promise 12: BAD when there is none: no such row");
        Counted x = small();
        x.trace(sub(2, 5));
        for (int i : joined(NEVER, 5, 6, 256, 4031, 4032, 4033)) {
            due.is("row(" + i + ") of five", x.row(i), BAD);
        }
        due.rows("still there:", x, ROWS);
        x.trace(0);
        due.is("the only row", x.row(0), 0);
        due.is("behind the only row", x.row(1), BAD);
    }

    private static void theLatestProof() {
        due.sentence("Promise 12: the latest proof");
        Counted x = small();
        x.trace(sub(2, 5));
        x.trace(sub(5, 1));
        due.rows("a shorter one:", x, sub(5, 5), sub(5, 1));
        for (int i = 2; i < 6; i++) {
            due.is("row(" + i + ") of the one before", x.row(i), BAD);
        }
        x.trace(sub(2, 5));
        due.rows("a longer one:", x, ROWS);
    }

    private static void badBehindAProofOfNothing() {
        due.sentence("Promise 12: BAD when there is none: a trace that answered 0");
        for (int code : new int[] {sub(2, 4), sub(6, 6), -1, 4032, Integer.MIN_VALUE, Integer.MAX_VALUE}) {
            Counted x = small();
            due.is("trace(53)", x.trace(sub(2, 5)), 5);
            due.is("trace(" + code + ")", x.trace(code), 0);
            for (int i = 0; i < 6; i++) {
                due.is("row(" + i + ")", x.row(i), BAD);
            }
        }
    }

    private static void asItWasThen() {
        due.sentence("Promise 12: as it was then");
        Counted x = small();
        x.trace(sub(2, 5));
        x.drop(0);
        due.rows("behind drop:", x, ROWS);
        due.is("it does not follow any more", x.sub(2, 5), 0);
        due.rows("behind a look at what follows:", x, ROWS);
        x.grow();
        due.rows("behind grow:", x, ROWS);
        add(x, 1, 2, 5, 0);
        due.is("it follows for another reason", x.told(sub(2, 5), 0), 1);
        due.rows("behind axiom:", x, ROWS);
        due.proof("taken anew:", x, sub(2, 5), sub(2, 2), sub(2, 5));
        x.drop(3);
        due.is("it does not follow", x.told(sub(2, 5), 0), BAD);
        due.rows("the new one as it was then:", x, sub(2, 2), sub(2, 5));
        due.is("trace", x.trace(sub(2, 5)), 0);
        due.is("none", x.row(0), BAD);
    }

    private static void asItWasThenBehindEveryCall() {
        due.sentence("Promise 12: as it was then, behind every other call");
        Counted x = small();
        x.trace(sub(2, 5));
        x.sub(2, 5);
        x.link(2, 0, 3);
        x.rounds();
        x.facts();
        x.fact(0);
        x.told(sub(2, 1), 2);
        x.empty(2);
        x.same(2);
        x.parent(2, 0);
        due.rows("calls that are answered:", x, ROWS);
        due.is("axiom", x.axiom(9, 0, 0, 0), BAD);
        due.is("drop", x.drop(9), BAD);
        due.is("sub", x.sub(9, 0), BAD);
        due.is("link", x.link(9, 0, 0), BAD);
        due.noFact("refused:", x, -1);
        due.is("told", x.told(-1, 0), BAD);
        due.is("row", x.row(9), BAD);
        due.is("empty", x.empty(9), BAD);
        due.is("same", x.same(9), BAD);
        due.is("parent", x.parent(9, 0), BAD);
        due.rows("calls that are refused:", x, ROWS);
    }
}
