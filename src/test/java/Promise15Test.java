/** Promise 15: parent. */
public final class Promise15Test extends TestBase {
    public static void main(String[] args) {
        fromZeroByTheirNumbers();
        noOtherOneBetween();
        notTheSame();
        onlyTheLeastNumberCounts();
        noneOfTopAndBottom();
        noneOfEmptyClasses();
        badWhenThereIsNoneSuch();
        badWhenThereIsNoClass();
        asItIsNow();
        theMost();
        due.end();
    }

    private static void fromZeroByTheirNumbers() {
        due.sentence("Promise 15: Parent i (from 0, by their numbers) of a class");
        Counted x = made(7, ax(1, 2, 5, 0), ax(1, 2, 3, 0), ax(1, 5, 4, 0), ax(1, 3, 4, 0), ax(1, 2, 6, 0));
        due.parents("a diamond:", x, 2, 3, 5, 6);
        due.parents("a diamond:", x, 3, 4);
        due.parents("a diamond:", x, 5, 4);
        due.parents("a diamond:", x, 6, 0);
        due.parents("no axiom:", made(3), 2, 0);
        due.parents("the class has the greatest number:", made(5, ax(1, 4, 3, 0), ax(1, 4, 2, 0)), 4, 2, 3);
    }

    private static void noOtherOneBetween() {
        due.sentence("Promise 15: parents have no other one between");
        Counted x = made(5, ax(1, 2, 3, 0), ax(1, 3, 4, 0), ax(1, 2, 4, 0));
        due.parents("a chain:", x, 2, 3);
        due.parents("a chain:", x, 3, 4);
        due.parents("a chain:", x, 4, 0);
        Counted y = made(5, ax(1, 4, 3, 0), ax(1, 3, 2, 0), ax(1, 4, 2, 0));
        due.parents("a chain, turned:", y, 4, 3);
        due.parents("a chain, turned:", y, 3, 2);
    }

    private static void notTheSame() {
        due.sentence("Promise 15: parents are not the same as the class");
        Counted x = made(6, ax(1, 2, 5, 0), ax(1, 5, 2, 0), ax(1, 2, 3, 0), ax(1, 5, 4, 0));
        due.parents("of the least:", x, 2, 3, 4);
        due.parents("of the other:", x, 5, 3, 4);
        Counted top = made(4, ax(1, 0, 2, 0));
        due.parents("the same as TOP:", top, 2);
        due.parents("TOP with one the same:", top, 0);
    }

    private static void onlyTheLeastNumberCounts() {
        due.sentence("Promise 15: of classes that are the same only the least number counts");
        Counted x = made(7, ax(1, 2, 5, 0), ax(1, 5, 4, 0), ax(1, 4, 5, 0), ax(1, 5, 3, 0), ax(1, 3, 6, 0), ax(1, 6, 3, 0));
        due.parents("4 and 5 are the same:", x, 2, 4);
        due.parents("3 and 6 are the same:", x, 4, 3);
        due.parents("3 and 6 are the same:", x, 5, 3);
        due.parents("3 and 6 are below TOP:", x, 3, 0);
        due.parents("3 and 6 are below TOP:", x, 6, 0);
        Counted top = made(4, ax(1, 0, 2, 0));
        due.parents("2 is the same as TOP:", top, 3, 0);
    }

    private static void noneOfTopAndBottom() {
        due.sentence("Promise 15: BAD when there is none such: TOP, BOTTOM");
        for (int classes = 2; classes <= CLASSES; classes += 11) {
            Counted x = made(classes);
            due.parents(classes + " classes:", x, 0);
            due.parents(classes + " classes:", x, 1);
        }
        Counted y = made(4, ax(1, 1, 2, 0), ax(1, 2, 3, 0));
        due.parents("BOTTOM below others:", y, 1);
        due.parents("above BOTTOM:", y, 2, 3);
    }

    private static void noneOfEmptyClasses() {
        due.sentence("Promise 15: BAD when there is none such: a class that is empty");
        Counted x = made(5, ax(1, 2, 3, 0), ax(1, 2, 1, 0), ax(3, 4, 0, 2));
        due.parents("below BOTTOM:", x, 2);
        due.parents("with a link to an empty one:", x, 4);
        due.parents("not empty:", x, 3, 0);
        Counted all = made(4, ax(1, 0, 1, 0));
        for (int a = 0; a < 4; a++) {
            due.parents("all are empty:", all, a);
        }
    }

    private static void badWhenThereIsNoneSuch() {
        due.sentence("Promise 15: BAD when there is none such: no such i");
        Counted x = made(5, ax(1, 2, 3, 0), ax(1, 2, 4, 0));
        due.parents("two:", x, 2, 3, 4);
        for (int i : joined(NEVER, 2, 3, 22, 23, 24, 32, 256)) {
            due.is("parent(2, " + i + ") of two", x.parent(2, i), BAD);
        }
        for (int i : joined(NEVER, 1, 2, 23, 24)) {
            due.is("parent(3, " + i + ") of one", x.parent(3, i), BAD);
        }
        for (int i : joined(NEVER, 0, 1, 23, 24)) {
            due.is("parent(0, " + i + ") of none", x.parent(0, i), BAD);
        }
    }

    private static void badWhenThereIsNoClass() {
        due.sentence("Promise 15: BAD when there is none such: no class");
        Counted x = made(4, ax(1, 2, 3, 0));
        for (int a : noClasses(4)) {
            due.is("parent(" + a + ", 0)", x.parent(a, 0), BAD);
            due.is("parent(" + a + ", 1)", x.parent(a, 1), BAD);
            due.is("parent(" + a + ", -1)", x.parent(a, -1), BAD);
        }
        x.grow();
        due.is("the class that came", x.parent(4, 0), 0);
        Counted all = made(CLASSES);
        due.is("parent(23, 0)", all.parent(23, 0), 0);
        due.is("parent(24, 0)", all.parent(24, 0), BAD);
    }

    private static void asItIsNow() {
        due.sentence("Promise 15: as it is now");
        Counted x = made(4, ax(1, 2, 3, 0), ax(1, 2, 1, 0));
        due.parents("empty:", x, 2);
        x.drop(1);
        due.parents("not empty:", x, 2, 3);
        x.drop(0);
        due.parents("no axiom:", x, 2, 0);
        x.axiom(1, 3, 2, 0);
        due.parents("turned:", x, 2, 0);
        due.parents("turned:", x, 3, 2);
    }

    private static void theMost() {
        due.sentence("Promise 15: as many parents as there can be");
        Counted x = made(CLASSES);
        int[] parents = new int[21];
        for (int b = 2; b < 23; b++) {
            add(x, 1, 23, b, 0);
            parents[b - 2] = b;
        }
        due.parents("of 23:", x, 23, parents);
    }
}
