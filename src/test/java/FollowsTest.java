/** Promises 5 to 10: what follows, in which round, for which reason. */
public final class FollowsTest {
    private static final int BAD = ElCompletion.BAD;
    private static final int[] FAR = {-1, -2, Integer.MIN_VALUE, Integer.MAX_VALUE};
    private static final Due due = new Due();

    public static void main(String[] args) {
        subArguments();
        linkArguments();
        belowRule();
        bothRule();
        eachHasRule();
        whatHasRule();
        roleBelowRule();
        chainRule();
        ofItselfRule();
        bottomRule();
        nothingIsAboveBottom();
        roundsTakeOnlyEarlierFacts();
        orderOfFacts();
        factArguments();
        toldArguments();
        leastAxiom();
        leastFirstPremise();
        bottomRuleIsLast();
        reasonIsOfItsRound();
        longChain();
        edgesOfCodes();
        due.end();
    }

    private static int sub(int a, int b) {
        return 24 * a + b;
    }

    private static int link(int a, int r, int b) {
        return 576 + 24 * (6 * a + r) + b;
    }

    private static int[] ax(int kind, int a, int b, int c) {
        return new int[] {kind, a, b, c};
    }

    private static void subArguments() {
        ElCompletion x = Make.made(4, ax(1, 2, 3, 0));
        due.is("sub(2, 3)", x.sub(2, 3), 1);
        due.is("sub(3, 2)", x.sub(3, 2), 0);
        due.is("sub(4, 0)", x.sub(4, 0), BAD);
        due.is("sub(0, 4)", x.sub(0, 4), BAD);
        for (int far : FAR) {
            due.is("sub(" + far + ", 0)", x.sub(far, 0), BAD);
            due.is("sub(0, " + far + ")", x.sub(0, far), BAD);
        }
        due.is("sub(24, 24)", x.sub(24, 24), BAD);
    }

    private static void linkArguments() {
        ElCompletion x = Make.made(4, ax(3, 2, 5, 3));
        due.is("link(2, 5, 3)", x.link(2, 5, 3), 1);
        due.is("link(3, 5, 2)", x.link(3, 5, 2), 0);
        due.is("link(2, 4, 3)", x.link(2, 4, 3), 0);
        due.is("link(4, 0, 0)", x.link(4, 0, 0), BAD);
        due.is("link(0, 6, 0)", x.link(0, 6, 0), BAD);
        due.is("link(0, 0, 4)", x.link(0, 0, 4), BAD);
        for (int far : FAR) {
            due.is("link(" + far + ", 0, 0)", x.link(far, 0, 0), BAD);
            due.is("link(0, " + far + ", 0)", x.link(0, far, 0), BAD);
            due.is("link(0, 0, " + far + ")", x.link(0, 0, far), BAD);
        }
    }

    private static void belowRule() {
        ElCompletion x = Make.made(5, ax(1, 2, 3, 0), ax(1, 3, 4, 0));
        due.told("below:", x, sub(2, 3), 1, 0, sub(2, 2), BAD);
        due.told("below:", x, sub(2, 4), 2, 1, sub(2, 3), BAD);
        due.facts("below:", x, sub(0, 0), sub(1, 0), sub(1, 1), sub(2, 0), sub(2, 2), sub(3, 0), sub(3, 3),
            sub(4, 0), sub(4, 4), sub(2, 3), sub(3, 4), sub(2, 4));
        due.is("below: rounds()", x.rounds(), 3);
        ElCompletion top = Make.made(3, ax(1, 0, 2, 0));
        due.told("below of TOP:", top, sub(0, 2), 1, 0, sub(0, 0), BAD);
        due.told("below of TOP:", top, sub(1, 2), 1, 0, sub(1, 0), BAD);
        due.told("below of TOP:", top, sub(2, 2), 0, BAD, BAD, BAD);
    }

    private static void bothRule() {
        ElCompletion x = Make.made(6, ax(2, 2, 3, 4), ax(1, 5, 2, 0), ax(1, 5, 3, 0));
        due.told("both:", x, sub(5, 4), 2, 0, sub(5, 2), sub(5, 3));
        due.is("both: sub(2, 4)", x.sub(2, 4), 0);
        due.is("both: sub(3, 4)", x.sub(3, 4), 0);
        ElCompletion turned = Make.made(6, ax(2, 3, 2, 4), ax(1, 5, 2, 0), ax(1, 5, 3, 0));
        due.told("both, turned:", turned, sub(5, 4), 2, 0, sub(5, 3), sub(5, 2));
        ElCompletion one = Make.made(4, ax(2, 2, 2, 3));
        due.told("both, of one class:", one, sub(2, 3), 1, 0, sub(2, 2), sub(2, 2));
        due.proof("both, of one class:", one, sub(2, 3), sub(2, 2), sub(2, 3));
        ElCompletion top = Make.made(4, ax(2, 2, 0, 3));
        due.told("both, with TOP:", top, sub(2, 3), 1, 0, sub(2, 2), sub(2, 0));
    }

    private static void eachHasRule() {
        ElCompletion x = Make.made(5, ax(3, 2, 1, 3), ax(1, 4, 2, 0));
        due.told("each has:", x, link(2, 1, 3), 1, 0, sub(2, 2), BAD);
        due.told("each has:", x, link(4, 1, 3), 2, 0, sub(4, 2), BAD);
        due.is("each has: the other way", x.link(3, 1, 2), 0);
        due.is("each has: facts()", x.facts(), 9 + 3);
        ElCompletion itself = Make.made(3, ax(3, 2, 0, 2));
        due.told("each has one of its own:", itself, link(2, 0, 2), 1, 0, sub(2, 2), BAD);
    }

    private static void whatHasRule() {
        ElCompletion x = Make.made(6, ax(3, 2, 1, 3), ax(1, 3, 4, 0), ax(4, 1, 4, 5));
        due.told("what has:", x, sub(2, 5), 2, 2, link(2, 1, 3), sub(3, 4));
        due.is("what has: another role", Make.made(6, ax(3, 2, 0, 3), ax(4, 1, 3, 5)).sub(2, 5), 0);
        due.is("what has: another class", Make.made(6, ax(3, 2, 1, 4), ax(4, 1, 3, 5)).sub(2, 5), 0);
        ElCompletion top = Make.made(4, ax(3, 2, 1, 1), ax(4, 1, 0, 3));
        due.told("what has one in TOP:", top, sub(2, 3), 2, 1, link(2, 1, 1), sub(1, 0));
    }

    private static void roleBelowRule() {
        ElCompletion x = Make.made(4, ax(3, 2, 0, 3), ax(5, 0, 5, 0));
        due.told("role below:", x, link(2, 5, 3), 2, 1, link(2, 0, 3), BAD);
        due.is("role below: the other way", Make.made(4, ax(3, 2, 5, 3), ax(5, 0, 5, 0)).link(2, 0, 3), 0);
        due.is("role below itself", Make.made(4, ax(3, 2, 0, 3), ax(5, 0, 0, 0)).rounds(), 2);
    }

    private static void chainRule() {
        ElCompletion x = Make.made(5, ax(3, 2, 0, 3), ax(3, 3, 1, 4), ax(6, 0, 1, 2));
        due.told("chain:", x, link(2, 2, 4), 2, 2, link(2, 0, 3), link(3, 1, 4));
        due.is("chain: roles turned", Make.made(5, ax(3, 2, 1, 3), ax(3, 3, 0, 4), ax(6, 0, 1, 2)).link(2, 2, 4), 0);
        due.is("chain: the links do not meet", Make.made(6, ax(3, 2, 0, 3), ax(3, 5, 1, 4), ax(6, 0, 1, 2)).link(2, 2, 4), 0);
        ElCompletion one = Make.made(3, ax(3, 2, 0, 2), ax(6, 0, 0, 1));
        due.told("chain of one link:", one, link(2, 1, 2), 2, 1, link(2, 0, 2), link(2, 0, 2));
        due.proof("chain of one link:", one, link(2, 1, 2), sub(2, 2), link(2, 0, 2), link(2, 1, 2));
    }

    private static void ofItselfRule() {
        ElCompletion x = Make.made(3, ax(7, 3, 0, 0), ax(7, 3, 0, 0));
        due.facts("of itself:", x, sub(0, 0), sub(1, 0), sub(1, 1), sub(2, 0), sub(2, 2),
            link(0, 3, 0), link(1, 3, 1), link(2, 3, 2));
        due.told("of itself:", x, link(2, 3, 2), 0, BAD, BAD, BAD);
        due.is("of itself: rounds()", x.rounds(), 1);
        x.grow();
        due.is("of itself: a class that comes later", x.link(3, 3, 3), 1);
        due.is("of itself: another role", x.link(2, 2, 2), 0);
        x.drop(0);
        due.is("of itself: one of two is left", x.link(2, 3, 2), 1);
        x.drop(0);
        due.is("of itself: none is left", x.link(2, 3, 2), 0);
    }

    private static void bottomRule() {
        ElCompletion x = Make.made(4, ax(3, 2, 4, 3), ax(1, 3, 1, 0));
        due.told("bottom:", x, sub(2, 1), 2, 100, link(2, 4, 3), sub(3, 1));
        ElCompletion direct = Make.made(3, ax(3, 2, 0, 1));
        due.told("bottom itself:", direct, sub(2, 1), 2, 100, link(2, 0, 1), sub(1, 1));
        due.proof("bottom itself:", direct, sub(2, 1), sub(1, 1), sub(2, 2), link(2, 0, 1), sub(2, 1));
        for (int r = 0; r < 6; r++) {
            ElCompletion y = Make.made(3, ax(3, 2, r, 1));
            due.is("bottom by role " + r, y.told(sub(2, 1), 2), link(2, r, 1));
        }
    }

    private static void nothingIsAboveBottom() {
        ElCompletion x = Make.made(4, ax(1, 2, 1, 0));
        due.is("sub(1, 2)", x.sub(1, 2), 0);
        due.is("sub(2, 3)", x.sub(2, 3), 0);
        due.is("sub(2, 1)", x.sub(2, 1), 1);
    }

    private static void roundsTakeOnlyEarlierFacts() {
        ElCompletion x = Make.made(6, ax(1, 2, 3, 0), ax(1, 3, 4, 0), ax(1, 4, 5, 0));
        due.is("up the axioms: rounds()", x.rounds(), 4);
        due.is("up the axioms: round", x.told(sub(2, 5), 0), 3);
        ElCompletion y = Make.made(6, ax(1, 4, 5, 0), ax(1, 3, 4, 0), ax(1, 2, 3, 0));
        due.is("down the axioms: rounds()", y.rounds(), 4);
        due.is("down the axioms: round", y.told(sub(2, 5), 0), 3);
        ElCompletion z = Make.made(4, ax(7, 0, 0, 0), ax(5, 0, 1, 0), ax(5, 1, 2, 0));
        due.is("roles: rounds()", z.rounds(), 3);
    }

    private static void orderOfFacts() {
        ElCompletion x = Make.made(4, ax(1, 3, 2, 0), ax(3, 2, 0, 3), ax(1, 2, 3, 0), ax(7, 1, 0, 0));
        due.facts("order:", x, sub(0, 0), sub(1, 0), sub(1, 1), sub(2, 0), sub(2, 2), sub(3, 0), sub(3, 3),
            link(0, 1, 0), link(1, 1, 1), link(2, 1, 2), link(3, 1, 3),
            sub(2, 3), sub(3, 2), link(2, 0, 3), link(3, 0, 3));
        due.is("order: rounds()", x.rounds(), 3);
    }

    private static void factArguments() {
        ElCompletion x = Make.made(3);
        for (int i : new int[] {5, 6, 4031, 4032, 4096, -1, Integer.MIN_VALUE, Integer.MAX_VALUE}) {
            due.throwsIndex("fact(" + i + ")", () -> x.fact(i));
        }
        due.is("fact(4) behind the throws", x.fact(4), sub(2, 2));
        x.grow();
        due.is("fact(6) with a class more", x.fact(6), sub(3, 3));
        x.axiom(1, 2, 3, 0);
        due.is("fact(7) with an axiom", x.fact(7), sub(2, 3));
        x.drop(0);
        due.throwsIndex("fact(7) without it", () -> x.fact(7));
    }

    private static void toldArguments() {
        ElCompletion x = Make.made(4, ax(2, 2, 0, 3));
        due.told("told:", x, sub(2, 3), 1, 0, sub(2, 2), sub(2, 0), BAD, BAD);
        for (int far : FAR) {
            due.is("told of what " + far, x.told(sub(2, 3), far), BAD);
            due.is("told of code " + far, x.told(far, 0), BAD);
        }
        for (int code : new int[] {sub(3, 2), sub(4, 4), sub(4, 0), sub(23, 23), link(2, 0, 2), 575, 576, 4031, 4032, 4095, 4096}) {
            due.told("a code that does not follow:", x, code, BAD, BAD, BAD, BAD);
        }
    }

    private static void leastAxiom() {
        ElCompletion x = Make.made(5, ax(1, 0, 0, 0), ax(2, 2, 0, 3), ax(1, 2, 3, 0), ax(1, 2, 3, 0));
        due.told("least axiom:", x, sub(2, 3), 1, 1, sub(2, 2), sub(2, 0));
        x.drop(1);
        due.told("least axiom, the next:", x, sub(2, 3), 1, 1, sub(2, 2), BAD);
        ElCompletion y = Make.made(5, ax(1, 0, 3, 0), ax(1, 2, 3, 0));
        due.told("the axiom comes before the premise:", y, sub(2, 3), 1, 0, sub(2, 0), BAD);
        ElCompletion z = Make.made(5, ax(1, 2, 3, 0), ax(1, 0, 3, 0));
        due.told("the axiom comes before the premise:", z, sub(2, 3), 1, 0, sub(2, 2), BAD);
    }

    private static void leastFirstPremise() {
        ElCompletion x = Make.made(6, ax(3, 2, 0, 4), ax(3, 2, 0, 3), ax(4, 0, 0, 5));
        due.told("least link:", x, sub(2, 5), 2, 2, link(2, 0, 3), sub(3, 0));
        ElCompletion y = Make.made(6, ax(3, 2, 0, 4), ax(3, 2, 0, 3), ax(3, 4, 0, 5), ax(3, 3, 0, 5), ax(6, 0, 0, 1));
        due.told("least chain:", y, link(2, 1, 5), 2, 4, link(2, 0, 3), link(3, 0, 5));
        ElCompletion z = Make.made(6, ax(3, 2, 1, 1), ax(3, 2, 0, 3), ax(1, 3, 1, 0));
        due.told("least role before least class:", z, sub(2, 1), 2, 100, link(2, 0, 3), sub(3, 1));
    }

    private static void bottomRuleIsLast() {
        ElCompletion x = Make.made(6, ax(3, 2, 0, 3), ax(1, 3, 1, 0), ax(1, 2, 5, 0), ax(1, 5, 1, 0));
        due.told("an axiom's number is less than 100:", x, sub(2, 1), 2, 3, sub(2, 5), BAD);
    }

    private static void reasonIsOfItsRound() {
        ElCompletion x = Make.made(6, ax(2, 3, 4, 5), ax(1, 2, 3, 0), ax(1, 3, 4, 0), ax(1, 2, 5, 0));
        due.told("a lesser axiom that comes later is no reason:", x, sub(2, 5), 1, 3, sub(2, 2), BAD);
    }

    private static void longChain() {
        ElCompletion x = Make.made(24);
        for (int a = 2; a < 23; a++) {
            x.axiom(1, a, a + 1, 0);
        }
        due.is("long: rounds()", x.rounds(), 22);
        due.is("long: facts()", x.facts(), 47 + 21 * 22 / 2);
        due.told("long:", x, sub(2, 23), 21, 20, sub(2, 22), BAD);
        due.is("long: trace", x.trace(sub(2, 23)), 22);
        due.is("long: last row", x.row(21), sub(2, 23));
    }

    /** All 4032 facts follow: the largest state that there is. */
    private static void edgesOfCodes() {
        ElCompletion x = Make.made(24);
        for (int a = 1; a < 24; a++) {
            x.axiom(1, 0, a, 0);
            x.axiom(3, 0, 0, a);
        }
        x.axiom(3, 0, 0, 0);
        for (int r = 1; r < 6; r++) {
            x.axiom(5, 0, r, 0);
        }
        due.is("all: facts()", x.facts(), 4032);
        due.is("all: rounds()", x.rounds(), 3);
        due.is("all: fact(0)", x.fact(0), 0);
        due.is("all: fact(4031)", x.fact(4031), link(23, 5, 23));
        due.throwsIndex("all: fact(4032)", () -> x.fact(4032));
        due.told("all:", x, 4031, 2, 51, link(23, 0, 23), BAD);
        due.told("all:", x, link(23, 0, 23), 1, 45, sub(23, 0), BAD);
        due.proof("all:", x, 4031, sub(23, 0), link(23, 0, 23), 4031);
        due.is("all: same(23)", x.same(23), 0);
    }
}
