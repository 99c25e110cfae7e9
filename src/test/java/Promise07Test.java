/** Promise 7: rounds. */
public final class Promise07Test extends TestBase {
    public static void main(String[] args) {
        roundZeroToo();
        aRoundThatGivesNothing();
        howManyRoundsGaveFacts();
        fewerAgain();
        manyRounds();
        due.end();
    }

    private static void roundZeroToo() {
        due.sentence("Promise 7: round 0 too");
        due.is("of a new object", new Counted().rounds(), 1);
        due.is("of 24 classes", made(CLASSES).rounds(), 1);
        due.is("axioms of kind 7 give in round 0", made(4, ax(7, 0, 0, 0), ax(7, 5, 0, 0)).rounds(), 1);
    }

    private static void aRoundThatGivesNothing() {
        due.sentence("Promise 7: a round that gave no facts does not count");
        due.is("1 A A", made(4, ax(1, 2, 2, 0)).rounds(), 1);
        due.is("1 A TOP", made(4, ax(1, 2, 0, 0)).rounds(), 1);
        due.is("2 A B C of none", made(5, ax(2, 2, 3, 4)).rounds(), 1);
        due.is("4 of no link", made(4, ax(4, 0, 2, 3)).rounds(), 1);
        due.is("5 of no link", made(4, ax(5, 0, 1, 0)).rounds(), 1);
        due.is("6 of no links", made(4, ax(6, 0, 1, 2)).rounds(), 1);
        due.is("5 r r", made(4, ax(7, 0, 0, 0), ax(5, 0, 0, 0)).rounds(), 1);
        due.is("6 r r r of itself", made(4, ax(7, 0, 0, 0), ax(6, 0, 0, 0)).rounds(), 1);
        due.is("the same axiom twice", made(4, ax(1, 2, 3, 0), ax(1, 2, 3, 0)).rounds(), 2);
    }

    private static void howManyRoundsGaveFacts() {
        due.sentence("Promise 7: How many rounds gave facts");
        due.is("one step", made(4, ax(1, 2, 3, 0)).rounds(), 2);
        due.is("up the axioms", made(6, ax(1, 2, 3, 0), ax(1, 3, 4, 0), ax(1, 4, 5, 0)).rounds(), 4);
        due.is("down the axioms", made(6, ax(1, 4, 5, 0), ax(1, 3, 4, 0), ax(1, 2, 3, 0)).rounds(), 4);
        due.is("roles", made(4, ax(7, 0, 0, 0), ax(5, 0, 1, 0), ax(5, 1, 2, 0)).rounds(), 3);
        due.is("roles, turned", made(4, ax(7, 0, 0, 0), ax(5, 1, 2, 0), ax(5, 0, 1, 0)).rounds(), 3);
        due.is("a round that gives only BOTTOM's rule", made(4, ax(3, 2, 0, 1)).rounds(), 3);
        due.is("everything", everythingFollows().rounds(), 3);
    }

    private static void fewerAgain() {
        due.sentence("Promise 7: the rounds that there are now");
        Counted x = made(5, ax(1, 2, 3, 0), ax(1, 3, 4, 0));
        due.is("two steps", x.rounds(), 3);
        x.drop(1);
        due.is("one step", x.rounds(), 2);
        x.drop(0);
        due.is("none", x.rounds(), 1);
        x.grow();
        due.is("a class more", x.rounds(), 1);
        x.axiom(1, 5, 2, 0);
        due.is("an axiom more", x.rounds(), 2);
    }

    private static void manyRounds() {
        due.sentence("Promise 7: many rounds");
        Counted chain = made(CLASSES);
        for (int a = 2; a < 23; a++) {
            chain.axiom(1, a, a + 1, 0);
        }
        due.is("21 steps", chain.rounds(), 22);
        due.is("the last of them", chain.told(sub(2, 23), 0), 21);
        Counted way = longWay(CLASSES);
        due.is("22 steps, and four times 21 with three between", way.rounds(), 1 + 22 + 4 * 21 + 3);
        due.is("the last of them", way.told(link(2, 3, 2), 0), 22 + 4 * 21 + 3);
    }
}
