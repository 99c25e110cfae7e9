import java.util.List;

/** Promise 2: grow. */
public final class Promise02Test extends TestBase {
    public static void main(String[] args) {
        aClassMoreItsNumber();
        full();
        fullChangesNothing();
        nothingMakesRoom();
        due.end();
    }

    private static void aClassMoreItsNumber() {
        due.sentence("Promise 2: A class more: its number");
        Counted x = made(2, ax(1, 0, 1, 0), ax(7, 3, 0, 0));
        for (int a = 2; a < CLASSES; a++) {
            due.is("sub of the class to come", x.sub(a, 0), BAD);
            due.is("told of the class to come", x.told(sub(a, a), 0), BAD);
            due.is("grow()", x.grow(), a);
            due.is("told of the class that came", x.told(sub(a, a), 0), 0);
            due.is("sub: an older axiom is for it too", x.sub(a, 1), 1);
            due.is("link: an older axiom is for it too", x.link(a, 3, a), 1);
            due.is("facts()", x.facts(), 3 * (a + 1) + (a + 1) - 2);
        }
    }

    private static void full() {
        due.sentence("Promise 2: FULL");
        Counted x = made(CLASSES - 1);
        due.is("the 22nd of the others", x.grow(), CLASSES - 1);
        due.is("the 23rd of the others", x.grow(), FULL);
        due.is("and again", x.grow(), FULL);
        due.is("facts()", x.facts(), 47);
    }

    private static void fullChangesNothing() {
        due.sentence("Promise 2: FULL changes nothing");
        Counted x = made(CLASSES, ax(1, 23, 22, 0));
        x.trace(sub(23, 22));
        List<Integer> then = picture(made(CLASSES, ax(1, 23, 22, 0)));
        due.is("grow()", x.grow(), FULL);
        due.is("all that follows", picture(x), then);
        due.is("sub(24, 0)", x.sub(24, 0), BAD);
        due.is("axiom of class 24", x.axiom(1, 24, 0, 0), BAD);
        due.is("axiom of class 23", x.axiom(1, 23, 0, 0), 1);
        due.rows("the proof:", x, sub(23, 23), sub(23, 22));
    }

    private static void nothingMakesRoom() {
        due.sentence("Promise 2: FULL, whatever else is called");
        Counted x = made(CLASSES, ax(1, 23, 1, 0));
        due.is("grow()", x.grow(), FULL);
        x.drop(0);
        due.is("grow() behind drop", x.grow(), FULL);
        x.axiom(1, 23, 2, 0);
        x.facts();
        due.is("grow() behind axiom", x.grow(), FULL);
    }
}
