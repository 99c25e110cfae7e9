/** The document's terms: round 0, the rules one by one, and which reason is the least. */
public final class TermsTest extends TestBase {
    public static void main(String[] args) {
        roundZero();
        below();
        both();
        eachHas();
        whatHas();
        roleBelow();
        chain();
        withoutAnAxiom();
        nothingElseIsAboveBottom();
        factsOfRoundsBefore();
        everyRuleTakesRoundsBefore();
        leastAxiom();
        leastFirstPremise();
        withoutAnAxiomIsLast();
        ofItsRound();
        due.end();
    }

    private static void roundZero() {
        due.sentence("Terms: In round 0");
        Counted x = made(3, ax(7, 3, 0, 0), ax(7, 3, 0, 0));
        due.facts("of itself:", x, sub(0, 0), sub(1, 0), sub(1, 1), sub(2, 0), sub(2, 2),
            link(0, 3, 0), link(1, 3, 1), link(2, 3, 2));
        x.grow();
        due.is("a class that comes later", x.link(3, 3, 3), 1);
        due.is("another role", x.link(2, 2, 2), 0);
        x.drop(0);
        due.is("one of two axioms is left", x.link(2, 3, 2), 1);
        x.drop(0);
        due.is("none is left", x.link(2, 3, 2), 0);
        Counted roles = made(3);
        for (int r = 0; r < ROLES; r++) {
            due.is("before the axiom", roles.link(2, r, 2), 0);
            add(roles, 7, r, 0, 0);
            due.told("behind it:", roles, link(2, r, 2), 0, BAD, BAD, BAD);
        }
    }

    private static void below() {
        due.sentence("Terms: 1 A B: from SUB a A: SUB a B");
        Counted x = made(5, ax(1, 2, 3, 0), ax(1, 3, 4, 0));
        due.told("below:", x, sub(2, 3), 1, 0, sub(2, 2), BAD);
        due.told("below:", x, sub(2, 4), 2, 1, sub(2, 3), BAD);
        due.facts("below:", x, sub(0, 0), sub(1, 0), sub(1, 1), sub(2, 0), sub(2, 2), sub(3, 0), sub(3, 3),
            sub(4, 0), sub(4, 4), sub(2, 3), sub(3, 4), sub(2, 4));
        Counted top = made(3, ax(1, 0, 2, 0));
        due.told("below of TOP:", top, sub(0, 2), 1, 0, sub(0, 0), BAD);
        due.told("below of TOP:", top, sub(1, 2), 1, 0, sub(1, 0), BAD);
    }

    private static void both() {
        due.sentence("Terms: 2 A B C: from SUB a A and SUB a B: SUB a C");
        Counted x = made(6, ax(2, 2, 3, 4), ax(1, 5, 2, 0), ax(1, 5, 3, 0));
        due.told("both:", x, sub(5, 4), 2, 0, sub(5, 2), sub(5, 3));
        due.is("sub(2, 4)", x.sub(2, 4), 0);
        due.is("sub(3, 4)", x.sub(3, 4), 0);
        Counted turned = made(6, ax(2, 3, 2, 4), ax(1, 5, 2, 0), ax(1, 5, 3, 0));
        due.told("turned:", turned, sub(5, 4), 2, 0, sub(5, 3), sub(5, 2));
        due.told("of one class:", made(4, ax(2, 2, 2, 3)), sub(2, 3), 1, 0, sub(2, 2), sub(2, 2));
        due.told("with TOP:", made(4, ax(2, 2, 0, 3)), sub(2, 3), 1, 0, sub(2, 2), sub(2, 0));
    }

    private static void eachHas() {
        due.sentence("Terms: 3 A r B: from SUB a A: LINK a r B");
        Counted x = made(5, ax(3, 2, 1, 3), ax(1, 4, 2, 0));
        due.told("each has:", x, link(2, 1, 3), 1, 0, sub(2, 2), BAD);
        due.told("each has:", x, link(4, 1, 3), 2, 0, sub(4, 2), BAD);
        due.is("the other way", x.link(3, 1, 2), 0);
        due.is("facts()", x.facts(), 9 + 3);
        due.told("one of its own:", made(3, ax(3, 2, 0, 2)), link(2, 0, 2), 1, 0, sub(2, 2), BAD);
    }

    private static void whatHas() {
        due.sentence("Terms: 4 r A B: from LINK a r b and SUB b A: SUB a B");
        Counted x = made(6, ax(3, 2, 1, 3), ax(1, 3, 4, 0), ax(4, 1, 4, 5));
        due.told("what has:", x, sub(2, 5), 2, 2, link(2, 1, 3), sub(3, 4));
        due.is("another role", made(6, ax(3, 2, 0, 3), ax(4, 1, 3, 5)).sub(2, 5), 0);
        due.is("another class", made(6, ax(3, 2, 1, 4), ax(4, 1, 3, 5)).sub(2, 5), 0);
        Counted top = made(4, ax(3, 2, 1, 1), ax(4, 1, 0, 3));
        due.told("one in TOP:", top, sub(2, 3), 2, 1, link(2, 1, 1), sub(1, 0));
    }

    private static void roleBelow() {
        due.sentence("Terms: 5 r s: from LINK a r b: LINK a s b");
        Counted x = made(4, ax(3, 2, 0, 3), ax(5, 0, 5, 0));
        due.told("role below:", x, link(2, 5, 3), 2, 1, link(2, 0, 3), BAD);
        due.is("the other way", made(4, ax(3, 2, 5, 3), ax(5, 0, 5, 0)).link(2, 0, 3), 0);
    }

    private static void chain() {
        due.sentence("Terms: 6 r s t: from LINK a r b and LINK b s c: LINK a t c");
        Counted x = made(5, ax(3, 2, 0, 3), ax(3, 3, 1, 4), ax(6, 0, 1, 2));
        due.told("chain:", x, link(2, 2, 4), 2, 2, link(2, 0, 3), link(3, 1, 4));
        due.is("roles turned", made(5, ax(3, 2, 1, 3), ax(3, 3, 0, 4), ax(6, 0, 1, 2)).link(2, 2, 4), 0);
        due.is("the links do not meet", made(6, ax(3, 2, 0, 3), ax(3, 5, 1, 4), ax(6, 0, 1, 2)).link(2, 2, 4), 0);
        Counted one = made(3, ax(3, 2, 0, 2), ax(6, 0, 0, 1));
        due.told("of one link:", one, link(2, 1, 2), 2, 1, link(2, 0, 2), link(2, 0, 2));
    }

    private static void withoutAnAxiom() {
        due.sentence("Terms: without an axiom (told as 100): from LINK a r b and SUB b 1: SUB a 1");
        Counted x = made(4, ax(3, 2, 4, 3), ax(1, 3, 1, 0));
        due.told("an empty class:", x, sub(2, 1), 2, 100, link(2, 4, 3), sub(3, 1));
        for (int r = 0; r < ROLES; r++) {
            due.told("BOTTOM by role " + r + ":", made(3, ax(3, 2, r, 1)), sub(2, 1), 2, 100, link(2, r, 1), sub(1, 1));
        }
    }

    private static void nothingElseIsAboveBottom() {
        due.sentence("Terms: no rule gives SUB 1 b of itself");
        Counted x = made(4, ax(1, 2, 1, 0));
        due.is("sub(1, 2)", x.sub(1, 2), 0);
        due.is("sub(2, 3)", x.sub(2, 3), 0);
        due.is("sub(2, 1)", x.sub(2, 1), 1);
    }

    private static void factsOfRoundsBefore() {
        due.sentence("Terms: from facts of rounds before it, and that were not there");
        Counted up = made(6, ax(1, 2, 3, 0), ax(1, 3, 4, 0), ax(1, 4, 5, 0));
        due.is("up the axioms", up.told(sub(2, 5), 0), 3);
        Counted down = made(6, ax(1, 4, 5, 0), ax(1, 3, 4, 0), ax(1, 2, 3, 0));
        due.is("down the axioms", down.told(sub(2, 5), 0), 3);
        Counted there = made(4, ax(1, 2, 3, 0), ax(1, 3, 2, 0));
        due.told("it was there:", there, sub(2, 2), 0, BAD, BAD, BAD);
        Counted later = made(5, ax(1, 2, 4, 0), ax(1, 2, 3, 0), ax(1, 3, 4, 0));
        due.told("it was there from round 1:", later, sub(2, 4), 1, 0, sub(2, 2), BAD);
    }

    /** The axioms that give the premises stand before the one that takes them. */
    private static void everyRuleTakesRoundsBefore() {
        due.sentence("Terms: each rule, from facts of rounds before it");
        due.is("2 A B C", made(5, ax(1, 2, 3, 0), ax(2, 2, 3, 4)).told(sub(2, 4), 0), 2);
        due.is("2 A B C, turned", made(5, ax(1, 2, 3, 0), ax(2, 3, 2, 4)).told(sub(2, 4), 0), 2);
        due.is("3 A r B", made(5, ax(1, 2, 3, 0), ax(3, 3, 0, 4)).told(link(2, 0, 4), 0), 2);
        due.is("4 r A B, the link", made(5, ax(3, 2, 0, 3), ax(4, 0, 3, 4)).told(sub(2, 4), 0), 2);
        Counted what = made(7, ax(3, 2, 0, 3), ax(1, 3, 4, 0), ax(1, 4, 5, 0), ax(4, 0, 5, 6));
        due.is("4 r A B, the class", what.told(sub(2, 6), 0), 3);
        due.is("5 r s", made(4, ax(3, 2, 0, 3), ax(5, 0, 1, 0)).told(link(2, 1, 3), 0), 2);
        Counted first = made(6, ax(1, 2, 5, 0), ax(3, 5, 0, 3), ax(3, 3, 1, 4), ax(6, 0, 1, 2));
        due.is("6 r s t, the first link", first.told(link(2, 2, 4), 0), 3);
        Counted second = made(6, ax(3, 2, 0, 3), ax(1, 3, 5, 0), ax(3, 5, 1, 4), ax(6, 0, 1, 2));
        due.is("6 r s t, the second link", second.told(link(2, 2, 4), 0), 3);
        Counted bottom = made(5, ax(3, 2, 0, 3), ax(1, 3, 4, 0), ax(1, 4, 1, 0));
        due.is("without an axiom", bottom.told(sub(2, 1), 0), 3);
    }

    private static void leastAxiom() {
        due.sentence("Terms: the one with the least axiom");
        Counted x = made(5, ax(1, 0, 0, 0), ax(2, 2, 0, 3), ax(1, 2, 3, 0), ax(1, 2, 3, 0));
        due.told("of three:", x, sub(2, 3), 1, 1, sub(2, 2), sub(2, 0));
        x.drop(1);
        due.told("of two:", x, sub(2, 3), 1, 1, sub(2, 2), BAD);
        Counted y = made(5, ax(1, 0, 3, 0), ax(1, 2, 3, 0));
        due.told("before the premise:", y, sub(2, 3), 1, 0, sub(2, 0), BAD);
        Counted z = made(5, ax(1, 2, 3, 0), ax(1, 0, 3, 0));
        due.told("before the premise:", z, sub(2, 3), 1, 0, sub(2, 2), BAD);
    }

    private static void leastFirstPremise() {
        due.sentence("Terms: then the least code of the first premise, then of the second");
        Counted x = made(6, ax(3, 2, 0, 4), ax(3, 2, 0, 3), ax(4, 0, 0, 5));
        due.told("least link:", x, sub(2, 5), 2, 2, link(2, 0, 3), sub(3, 0));
        Counted y = made(6, ax(3, 2, 0, 4), ax(3, 2, 0, 3), ax(3, 4, 0, 5), ax(3, 3, 0, 5), ax(6, 0, 0, 1));
        due.told("least chain:", y, link(2, 1, 5), 2, 4, link(2, 0, 3), link(3, 0, 5));
        Counted z = made(6, ax(3, 2, 1, 1), ax(3, 2, 0, 3), ax(1, 3, 1, 0));
        due.told("least role before least class:", z, sub(2, 1), 2, 100, link(2, 0, 3), sub(3, 1));
    }

    private static void withoutAnAxiomIsLast() {
        due.sentence("Terms: 100 is behind every axiom");
        Counted x = made(6, ax(3, 2, 0, 3), ax(1, 3, 1, 0), ax(1, 2, 5, 0), ax(1, 5, 1, 0));
        due.told("an axiom gives it too:", x, sub(2, 1), 2, 3, sub(2, 5), BAD);
    }

    private static void ofItsRound() {
        due.sentence("Terms: that give it in its round");
        Counted x = made(6, ax(2, 3, 4, 5), ax(1, 2, 3, 0), ax(1, 3, 4, 0), ax(1, 2, 5, 0));
        due.told("a lesser axiom that comes later:", x, sub(2, 5), 1, 3, sub(2, 2), BAD);
    }
}
