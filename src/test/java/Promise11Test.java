/** Promise 11: trace. */
public final class Promise11Test extends TestBase {
    public static void main(String[] args) {
        itselfAndAllPremises();
        itselfAlone();
        premisesOfReasonsAlone();
        eachOnce();
        byTheirRoundsThenByTheirCodes();
        zeroWhenItDoesNotFollow();
        asItIsNow();
        longProofs();
        due.end();
    }

    /** 2 has a 0 in 3, 3 is below 4: the second premise has the lesser code but the same round. */
    private static Counted small() {
        return made(6, ax(3, 2, 0, 3), ax(1, 3, 4, 0), ax(4, 0, 4, 5), ax(1, 5, 1, 0));
    }

    private static void itselfAndAllPremises() {
        due.sentence("Promise 11: itself and all premises of reasons");
        Counted x = small();
        due.proof("one premise:", x, sub(5, 1), sub(5, 5), sub(5, 1));
        due.proof("premises of premises:", x, sub(2, 5), sub(2, 2), sub(3, 3), sub(3, 4), link(2, 0, 3), sub(2, 5));
        due.proof("and of those:", x, sub(2, 1), sub(2, 2), sub(3, 3), sub(3, 4), link(2, 0, 3), sub(2, 5), sub(2, 1));
        Counted bottom = made(3, ax(3, 2, 0, 1));
        due.proof("the rule without an axiom:", bottom, sub(2, 1), sub(1, 1), sub(2, 2), link(2, 0, 1), sub(2, 1));
    }

    private static void itselfAlone() {
        due.sentence("Promise 11: itself alone, in round 0");
        Counted x = made(3, ax(7, 5, 0, 0), ax(1, 2, 0, 0));
        int[] codes = {sub(0, 0), sub(1, 0), sub(1, 1), sub(2, 0), sub(2, 2), link(0, 5, 0), link(2, 5, 2)};
        for (int code : codes) {
            due.proof("round 0:", x, code, code);
        }
    }

    private static void premisesOfReasonsAlone() {
        due.sentence("Promise 11: premises of reasons, and no other premises");
        Counted x = made(6, ax(2, 2, 0, 3), ax(1, 2, 3, 0), ax(1, 2, 4, 0), ax(1, 4, 3, 0));
        due.proof("the least axiom:", x, sub(2, 3), sub(2, 0), sub(2, 2), sub(2, 3));
        x.drop(0);
        due.proof("the next one:", x, sub(2, 3), sub(2, 2), sub(2, 3));
        x.drop(0);
        due.proof("the last one:", x, sub(2, 3), sub(2, 2), sub(2, 4), sub(2, 3));
    }

    private static void eachOnce() {
        due.sentence("Promise 11: each once");
        Counted x = made(7, ax(1, 2, 3, 0), ax(1, 3, 4, 0), ax(1, 3, 5, 0), ax(2, 4, 5, 6));
        due.proof("two premises with one premise:", x, sub(2, 6), sub(2, 2), sub(2, 3), sub(2, 4), sub(2, 5), sub(2, 6));
        Counted both = made(4, ax(2, 2, 2, 3));
        due.proof("both premises are one:", both, sub(2, 3), sub(2, 2), sub(2, 3));
        Counted chain = made(3, ax(3, 2, 0, 2), ax(6, 0, 0, 1));
        due.proof("both links are one:", chain, link(2, 1, 2), sub(2, 2), link(2, 0, 2), link(2, 1, 2));
    }

    private static void byTheirRoundsThenByTheirCodes() {
        due.sentence("Promise 11: by their rounds, then by their codes");
        Counted down = made(7, ax(1, 6, 5, 0), ax(1, 5, 4, 0), ax(1, 4, 3, 0));
        due.proof("codes go down with the rounds:", down, sub(6, 3), sub(6, 6), sub(6, 5), sub(6, 4), sub(6, 3));
        Counted links = made(4, ax(3, 3, 1, 2), ax(3, 2, 0, 3), ax(6, 1, 0, 2));
        due.proof("the second premise has the lesser code:", links, link(3, 2, 3),
            sub(2, 2), sub(3, 3), link(2, 0, 3), link(3, 1, 2), link(3, 2, 3));
        Counted mixed = made(6, ax(3, 2, 0, 3), ax(4, 0, 3, 4), ax(2, 4, 2, 5));
        due.proof("a LINK of an earlier round stands before a SUB:", mixed, sub(2, 5),
            sub(2, 2), sub(3, 3), link(2, 0, 3), sub(2, 4), sub(2, 5));
    }

    private static void zeroWhenItDoesNotFollow() {
        due.sentence("Promise 11: 0 when it does not follow");
        for (int code : joined(NEVER, sub(0, 1), sub(2, 4), sub(3, 5), sub(6, 6), sub(6, 0), 575, 576, 4031, 4032, 4033, 4095)) {
            Counted x = small();
            due.is("trace(" + code + ") at first", x.trace(code), 0);
            due.is("trace(53)", x.trace(sub(2, 5)), 5);
            due.is("trace(" + code + ") behind a proof", x.trace(code), 0);
        }
        Counted all = everythingFollows();
        for (int code : joined(NEVER, 4032, 4033, 4095, 4097)) {
            due.is("trace(" + code + ") when all follow", all.trace(code), 0);
        }
    }

    private static void asItIsNow() {
        due.sentence("Promise 11: of a fact that follows now");
        Counted x = made(3, ax(1, 2, 1, 0));
        due.is("it follows", x.trace(sub(2, 1)), 2);
        due.is("the class is not there", x.trace(sub(3, 3)), 0);
        x.grow();
        due.is("the class is there", x.trace(sub(3, 3)), 1);
        x.drop(0);
        due.is("it does not follow any more", x.trace(sub(2, 1)), 0);
    }

    private static void longProofs() {
        due.sentence("Promise 11: long proofs, and codes on the edges");
        Counted x = everythingFollows();
        due.proof("LINK 23 5 23:", x, 4031, sub(23, 0), link(23, 0, 23), 4031);
        due.proof("SUB 23 23:", x, 575, 575);
        due.proof("LINK 0 0 0:", x, 576, 0, 576);
        Counted way = longWay(CLASSES);
        int rows = way.trace(link(2, 3, 2));
        due.is("the first row", way.told(way.row(0), 0), 0);
        due.is("the last row", way.row(rows - 1), link(2, 3, 2));
        int steps = 0;
        for (int i = 0; i < rows; i++) {
            steps += way.told(way.row(i), 0) > 1 ? 1 : 0;
        }
        due.is("a row for each round behind round 1", steps, 108);
        due.is("and those of rounds 0 and 1", rows, 108 + 22 + 23);
    }
}
