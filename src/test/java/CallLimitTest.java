/** What it is: an object is used for at most 512 calls, and answers all of them as promised. */
public final class CallLimitTest extends TestBase {
    public static void main(String[] args) {
        theLastCall();
        everyCallMakesAllAnew();
        everyCallOfTheLargestState();
        manyObjects();
        due.end();
    }

    private static void theLastCall() {
        due.sentence("What it is: the 512th call");
        Counted x = made(4, ax(1, 2, 3, 0));
        while (x.callsLeft() > 1) {
            due.is("sub(2, 3)", x.sub(2, 3), 1);
        }
        due.is("the 512th", x.told(sub(2, 3), 2), sub(2, 2));
        Counted y = made(4);
        while (y.callsLeft() > 1) {
            due.noFact("refused:", y, 7);
        }
        due.is("the 512th", y.facts(), 7);
    }

    /** Each axiom that comes or goes makes what follows be worked out again. */
    private static void everyCallMakesAllAnew() {
        due.sentence("What it is: 512 calls, each second one with all that follows anew");
        Counted x = longWay(CLASSES);
        while (x.callsLeft() >= 4) {
            due.is("axiom", x.axiom(6, 3, 4, 3), 51);
            due.is("rounds() with it", x.rounds(), 110);
            due.is("drop", x.drop(50), 51);
            due.is("trace without it", x.trace(link(2, 2, 2)), 87 - 1 + 22 + 23);
            if (x.callsLeft() >= 3) {
                x.drop(50);
                add(x, 6, 2, 4, 3);
                due.is("rounds() as at first", x.rounds(), 110);
            }
        }
    }

    private static void everyCallOfTheLargestState() {
        due.sentence("What it is: 512 calls on 4032 facts");
        Counted x = everythingFollows();
        for (int a = 0; x.callsLeft() >= 2; a = (a + 1) % CLASSES) {
            due.is("trace", x.trace(link(a, 5, a)), 3);
            due.is("the last row", x.row(2), link(a, 5, a));
        }
    }

    private static void manyObjects() {
        due.sentence("What it is: many objects");
        for (int i = 0; i < 512; i++) {
            due.is("facts()", new Counted().facts(), 3);
        }
    }
}
