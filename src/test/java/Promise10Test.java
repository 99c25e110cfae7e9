/** Promise 10: told. */
public final class Promise10Test extends TestBase {
    public static void main(String[] args) {
        itsRound();
        theAxiomOfItsReason();
        thePremisesCodes();
        noneOfRoundZero();
        noSecondPremise();
        noSuchWhat();
        aCodeThatDoesNotFollow();
        aCodeOfNoClass();
        asItIsNow();
        theLastCodes();
        due.end();
    }

    private static void itsRound() {
        due.sentence("Promise 10: its round (what = 0)");
        Counted x = made(5, ax(1, 2, 3, 0), ax(1, 3, 4, 0), ax(7, 2, 0, 0));
        due.is("round 0", x.told(sub(2, 2), 0), 0);
        due.is("round 0, of itself", x.told(link(2, 2, 2), 0), 0);
        due.is("round 1", x.told(sub(2, 3), 0), 1);
        due.is("round 2", x.told(sub(2, 4), 0), 2);
        due.is("round 109", longWay(CLASSES).told(link(2, 3, 2), 0), 109);
    }

    private static void theAxiomOfItsReason() {
        due.sentence("Promise 10: the axiom of its reason (1)");
        Counted x = made(5, ax(7, 0, 0, 0), ax(1, 2, 3, 0), ax(1, 2, 3, 0), ax(3, 4, 0, 1));
        due.is("the first of two", x.told(sub(2, 3), 1), 1);
        due.is("the fourth", x.told(link(4, 0, 1), 1), 3);
        due.is("the rule without an axiom", x.told(sub(4, 1), 1), 100);
        Counted first = made(3, ax(1, 2, 1, 0));
        due.is("axiom 0", first.told(sub(2, 1), 1), 0);
    }

    private static void thePremisesCodes() {
        due.sentence("Promise 10: the premises' codes (2, 3)");
        Counted x = made(6, ax(3, 2, 1, 3), ax(4, 1, 3, 4), ax(2, 4, 2, 5), ax(5, 1, 2, 0), ax(6, 2, 0, 3), ax(7, 0, 0, 0));
        due.told("3 A r B:", x, link(2, 1, 3), 1, 0, sub(2, 2), BAD);
        due.told("4 r A B:", x, sub(2, 4), 2, 1, link(2, 1, 3), sub(3, 3));
        due.told("2 A B C:", x, sub(2, 5), 3, 2, sub(2, 4), sub(2, 2));
        due.told("5 r s:", x, link(2, 2, 3), 2, 3, link(2, 1, 3), BAD);
        due.told("6 r s t:", x, link(2, 3, 3), 3, 4, link(2, 2, 3), link(3, 0, 3));
        Counted least = made(3, ax(1, 0, 2, 0));
        due.told("1 A B, with the code 0:", least, sub(0, 2), 1, 0, sub(0, 0), BAD);
        Counted both = made(3, ax(2, 0, 0, 2));
        due.told("2 A B C, with the code 0 twice:", both, sub(0, 2), 1, 0, sub(0, 0), sub(0, 0));
    }

    private static void noneOfRoundZero() {
        due.sentence("Promise 10: BAD for what there is none of: no reason in round 0");
        Counted x = made(3, ax(7, 4, 0, 0), ax(1, 2, 2, 0), ax(1, 2, 0, 0), ax(3, 2, 4, 2), ax(3, 0, 4, 0));
        int[] codes = {sub(0, 0), sub(1, 0), sub(1, 1), sub(2, 0), sub(2, 2), link(0, 4, 0), link(1, 4, 1), link(2, 4, 2)};
        for (int code : codes) {
            due.told("round 0:", x, code, 0, BAD, BAD, BAD);
        }
    }

    private static void noSecondPremise() {
        due.sentence("Promise 10: BAD for what there is none of: no second premise");
        Counted x = made(4, ax(1, 2, 3, 0), ax(3, 2, 0, 3), ax(5, 0, 1, 0), ax(3, 3, 2, 1));
        due.is("1 A B", x.told(sub(2, 3), 3), BAD);
        due.is("3 A r B", x.told(link(2, 0, 3), 3), BAD);
        due.is("5 r s", x.told(link(2, 1, 3), 3), BAD);
        due.is("without an axiom there is one", x.told(sub(3, 1), 3), sub(1, 1));
    }

    private static void noSuchWhat() {
        due.sentence("Promise 10: BAD for what there is none of: what is none of 0, 1, 2, 3");
        Counted x = made(4, ax(2, 2, 0, 3));
        due.told("told:", x, sub(2, 3), 1, 0, sub(2, 2), sub(2, 0));
        for (int what : joined(NEVER, 4, 5, 7, 8, 100, 256, 257)) {
            due.is("told(51, " + what + ")", x.told(sub(2, 3), what), BAD);
            due.is("told(50, " + what + ")", x.told(sub(2, 2), what), BAD);
            due.is("told(52, " + what + ")", x.told(52, what), BAD);
            due.is("told(-1, " + what + ")", x.told(-1, what), BAD);
        }
    }

    private static void aCodeThatDoesNotFollow() {
        due.sentence("Promise 10: BAD for a code that does not follow");
        Counted x = made(4, ax(2, 2, 0, 3));
        for (int code : joined(NEVER, sub(0, 1), sub(3, 2), link(2, 0, 2), 575, 576, 4031, 4032, 4033, 4095)) {
            due.told("does not follow:", x, code, BAD, BAD, BAD, BAD);
        }
        Counted all = everythingFollows();
        for (int code : joined(NEVER, 4032, 4033, 4095, 4097)) {
            due.told("no code:", all, code, BAD, BAD, BAD, BAD);
        }
    }

    private static void aCodeOfNoClass() {
        due.sentence("Promise 10: BAD for a code that does not follow: of a class that is not there");
        Counted x = made(4, ax(7, 0, 0, 0), ax(1, 0, 2, 0));
        int[] codes = {sub(4, 4), sub(4, 0), sub(4, 2), sub(0, 4), sub(23, 23), sub(23, 0), link(4, 0, 4), link(23, 0, 23)};
        for (int code : codes) {
            due.told("not there:", x, code, BAD, BAD, BAD, BAD);
        }
        due.is("class 3 is there", x.told(sub(3, 2), 0), 1);
        x.grow();
        due.told("it came:", x, sub(4, 4), 0, BAD, BAD, BAD);
        due.told("it came:", x, sub(4, 2), 1, 1, sub(4, 0), BAD);
        due.told("it came:", x, link(4, 0, 4), 0, BAD, BAD, BAD);
    }

    private static void asItIsNow() {
        due.sentence("Promise 10: of a fact that follows now");
        Counted x = made(4, ax(1, 2, 1, 0), ax(1, 2, 3, 0));
        due.told("two axioms:", x, sub(2, 3), 1, 1, sub(2, 2), BAD);
        x.drop(0);
        due.told("the first is gone:", x, sub(2, 3), 1, 0, sub(2, 2), BAD);
        due.told("what came of it:", x, sub(2, 1), BAD, BAD, BAD, BAD);
        x.drop(0);
        due.told("both are gone:", x, sub(2, 3), BAD, BAD, BAD, BAD);
    }

    private static void theLastCodes() {
        due.sentence("Promise 10: the codes on the edges");
        Counted x = everythingFollows();
        due.told("SUB 0 0:", x, 0, 0, BAD, BAD, BAD);
        due.told("SUB 23 23:", x, 575, 0, BAD, BAD, BAD);
        due.told("LINK 0 0 0:", x, 576, 1, 46, sub(0, 0), BAD);
        due.told("LINK 23 0 23:", x, link(23, 0, 23), 1, 45, sub(23, 0), BAD);
        due.told("LINK 23 5 23:", x, 4031, 2, 51, link(23, 0, 23), BAD);
    }
}
