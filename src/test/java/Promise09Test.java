import java.util.List;
import java.util.Set;
import java.util.TreeSet;

/** Promise 9: fact. */
public final class Promise09Test extends TestBase {
    public static void main(String[] args) {
        byTheirRoundsThenByTheirCodes();
        fromZero();
        asManyAsFactsTells();
        andNoOthers();
        noOthersWhenAllFollow();
        asItIsNow();
        anExceptionChangesNothing();
        due.end();
    }

    private static void byTheirRoundsThenByTheirCodes() {
        due.sentence("Promise 9: by their rounds, then by their codes");
        Counted x = made(4, ax(1, 3, 2, 0), ax(3, 2, 0, 3), ax(1, 2, 3, 0), ax(7, 1, 0, 0));
        due.facts("order:", x, sub(0, 0), sub(1, 0), sub(1, 1), sub(2, 0), sub(2, 2), sub(3, 0), sub(3, 3),
            link(0, 1, 0), link(1, 1, 1), link(2, 1, 2), link(3, 1, 3),
            sub(2, 3), sub(3, 2), link(2, 0, 3), link(3, 0, 3));
        Counted roles = made(3, ax(3, 2, 1, 0), ax(3, 2, 0, 2), ax(3, 0, 5, 1));
        due.facts("roles, then classes:", roles, sub(0, 0), sub(1, 0), sub(1, 1), sub(2, 0), sub(2, 2),
            link(0, 5, 1), link(1, 5, 1), link(2, 0, 2), link(2, 1, 0), link(2, 5, 1), sub(0, 1), sub(2, 1));
        Counted way = longWay(CLASSES);
        int count = way.facts();
        int round = 0;
        int code = -1;
        for (int i = count - 1 - 200; i < count; i++) {
            int next = way.fact(i);
            int nextRound = way.told(next, 0);
            due.is("in order at " + i, nextRound > round || nextRound == round && next > code ? 1 : 0, 1);
            round = nextRound;
            code = next;
        }
        due.fact("the last of many rounds:", way, count - 1, link(2, 3, 2));
    }

    private static void fromZero() {
        due.sentence("Promise 9: from 0");
        due.fact("a new object:", new Counted(), 0, sub(0, 0));
        due.fact("24 classes:", made(CLASSES), 0, sub(0, 0));
        due.fact("everything:", everythingFollows(), 0, sub(0, 0));
    }

    private static void asManyAsFactsTells() {
        due.sentence("Promise 9: There are as many as facts() tells");
        Counted x = made(CLASSES, ax(7, 5, 0, 0));
        int count = x.facts();
        Set<Integer> codes = new TreeSet<>();
        for (int i = 0; i < count; i++) {
            codes.add(x.fact(i));
        }
        due.is("different codes", codes.size(), count);
        for (int a = 0; a < CLASSES; a++) {
            due.is("SUB a a", codes.contains(sub(a, a)) ? 1 : 0, 1);
            due.is("SUB a 0", codes.contains(sub(a, 0)) ? 1 : 0, 1);
            due.is("LINK a 5 a", codes.contains(link(a, 5, a)) ? 1 : 0, 1);
        }
    }

    private static void andNoOthers() {
        due.sentence("Promise 9: and no others (ArrayIndexOutOfBoundsException)");
        Counted x = new Counted();
        for (int i : joined(NEVER, 3, 4, 5, 24, 25, 256, 4031, 4032)) {
            due.noFact("a new object:", x, i);
        }
        due.facts("a new object:", x, 0, 24, 25);
        Counted y = made(CLASSES);
        for (int i : joined(NEVER, 47, 48, 256, 4031, 4032)) {
            due.noFact("24 classes:", y, i);
        }
        due.fact("24 classes:", y, 46, sub(23, 23));
    }

    private static void noOthersWhenAllFollow() {
        due.sentence("Promise 9: and no others, when all follow");
        Counted x = everythingFollows();
        due.fact("everything:", x, 4031, link(23, 5, 23));
        due.fact("everything:", x, 4030, link(23, 5, 22));
        for (int i : joined(NEVER, 4032, 4033)) {
            due.noFact("everything:", x, i);
        }
    }

    private static void asItIsNow() {
        due.sentence("Promise 9: of those that follow now");
        Counted x = made(3);
        due.noFact("before:", x, 5);
        x.grow();
        due.fact("a class more:", x, 6, sub(3, 3));
        due.noFact("a class more:", x, 7);
        x.axiom(1, 2, 3, 0);
        due.fact("an axiom more:", x, 7, sub(2, 3));
        due.noFact("an axiom more:", x, 8);
        x.drop(0);
        due.noFact("without it:", x, 7);
    }

    private static void anExceptionChangesNothing() {
        due.sentence("Promise 9: the exception changes nothing");
        Counted x = made(4, ax(1, 2, 3, 0));
        x.trace(sub(2, 3));
        List<Integer> then = picture(x);
        for (int i : new int[] {8, -1, Integer.MIN_VALUE, Integer.MAX_VALUE}) {
            due.noFact("refused:", x, i);
        }
        due.is("all that follows", picture(x), then);
        due.rows("the proof:", x, sub(2, 2), sub(2, 3));
        due.is("the next axiom", x.axiom(1, 3, 2, 0), 1);
    }
}
