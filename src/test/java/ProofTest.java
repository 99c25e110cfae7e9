/** Promises 11 and 12: whole proofs and their rows. */
public final class ProofTest {
    private static final int BAD = ElCompletion.BAD;
    private static final Due due = new Due();

    public static void main(String[] args) {
        rowsByRoundsThenCodes();
        sharedPremisesOnce();
        factsOfRoundZero();
        codesThatDoNotFollow();
        rowsStayAsTheyWere();
        aFactTakesOnlyItsReason();
        due.end();
    }

    /** 2 has a 0 in 3, 3 is below 4: the second premise has the lesser code but the same round. */
    private static ElCompletion small() {
        return Make.made(6, new int[][] {{3, 2, 0, 3}, {1, 3, 4, 0}, {4, 0, 4, 5}, {1, 5, 1, 0}});
    }

    private static void rowsByRoundsThenCodes() {
        ElCompletion x = small();
        due.proof("small:", x, 53, 50, 75, 76, 867, 53);
        due.proof("small:", x, 49, 50, 75, 76, 867, 53, 49);
        due.proof("small:", x, 121, 125, 121);
    }

    private static void sharedPremisesOnce() {
        ElCompletion x = Make.made(7, new int[][] {{1, 2, 3, 0}, {1, 3, 4, 0}, {1, 3, 5, 0}, {2, 4, 5, 6}});
        due.proof("shared:", x, 54, 50, 51, 52, 53, 54);
    }

    private static void factsOfRoundZero() {
        ElCompletion x = Make.made(3, new int[][] {{7, 5, 0, 0}});
        due.proof("round 0:", x, 0, 0);
        due.proof("round 0:", x, 48, 48);
        due.proof("round 0:", x, 576 + 24 * 17 + 2, 576 + 24 * 17 + 2);
    }

    private static void codesThatDoNotFollow() {
        ElCompletion x = small();
        int[] none = {1, 52, 72 + 5, 24 * 6, 575, 576, 4031, 4032, 4033, -1, -576, Integer.MIN_VALUE, Integer.MAX_VALUE};
        for (int code : none) {
            due.is("trace(53)", x.trace(53), 5);
            due.proof("does not follow:", x, code);
        }
    }

    private static void rowsStayAsTheyWere() {
        ElCompletion x = small();
        due.is("row(0) before a proof", x.row(0), BAD);
        due.is("trace(53)", x.trace(53), 5);
        int[] rows = {50, 75, 76, 867, 53};
        due.rows("then:", x, rows);
        x.drop(0);
        due.rows("behind drop:", x, rows);
        due.is("it does not follow now", x.sub(2, 5), 0);
        x.grow();
        x.axiom(1, 2, 5, 0);
        x.facts();
        due.rows("behind axiom:", x, rows);
        due.proof("anew:", x, 53, 50, 53);
        for (int i : new int[] {-1, 2, 3, 4, 5, 4031, 4032, Integer.MIN_VALUE, Integer.MAX_VALUE}) {
            due.is("row(" + i + ")", x.row(i), BAD);
        }
        due.is("trace of nothing", x.trace(-1), 0);
        due.is("row(0) of nothing", x.row(0), BAD);
    }

    private static void aFactTakesOnlyItsReason() {
        ElCompletion x = Make.made(6, new int[][] {{2, 2, 0, 3}, {1, 2, 3, 0}, {1, 2, 4, 0}, {1, 4, 3, 0}});
        due.proof("reason alone:", x, 51, 48, 50, 51);
        x.drop(0);
        due.proof("the other reason:", x, 51, 50, 51);
    }
}
