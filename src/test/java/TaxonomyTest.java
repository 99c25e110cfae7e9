/** Promises 13 to 15: empty classes, classes that are the same, parents. */
public final class TaxonomyTest {
    private static final int BAD = ElCompletion.BAD;
    private static final int[] FAR = {-1, Integer.MIN_VALUE, Integer.MAX_VALUE};
    private static final Due due = new Due();

    public static void main(String[] args) {
        empty();
        same();
        parentsOfAChain();
        parentsOfADiamond();
        parentsOfSameClasses();
        parentsAreLeastNumbers();
        classesTheSameAsTop();
        emptyClassesHaveNoParents();
        everythingEmpty();
        wrongArguments();
        due.end();
    }

    private static void empty() {
        ElCompletion x = Make.made(6, new int[][] {{3, 2, 0, 3}, {2, 3, 4, 1}, {1, 3, 4, 0}});
        due.is("empty(0)", x.empty(0), 0);
        due.is("empty(1)", x.empty(1), 1);
        due.is("empty(2)", x.empty(2), 1);
        due.is("empty(3)", x.empty(3), 1);
        due.is("empty(4)", x.empty(4), 0);
        due.is("empty(5)", x.empty(5), 0);
        x.drop(2);
        due.is("empty(2) without the axiom", x.empty(2), 0);
        due.is("empty(1) without the axiom", x.empty(1), 1);
    }

    private static void same() {
        ElCompletion x = Make.made(7, new int[][] {{1, 5, 3, 0}, {1, 3, 6, 0}, {1, 6, 5, 0}, {1, 2, 3, 0}});
        due.is("same(2)", x.same(2), 2);
        due.is("same(3)", x.same(3), 3);
        due.is("same(4)", x.same(4), 4);
        due.is("same(5)", x.same(5), 3);
        due.is("same(6)", x.same(6), 3);
        x.drop(0);
        due.is("same(5) without the ring", x.same(5), 5);
        due.is("same(6) without the ring", x.same(6), 6);
    }

    private static void parentsOfAChain() {
        ElCompletion x = Make.made(5, new int[][] {{1, 2, 3, 0}, {1, 3, 4, 0}, {1, 2, 4, 0}});
        due.parents("chain:", x, 2, 3);
        due.parents("chain:", x, 3, 4);
        due.parents("chain:", x, 4, 0);
        due.parents("chain:", x, 0);
        due.parents("chain:", x, 1);
    }

    private static void parentsOfADiamond() {
        ElCompletion x = Make.made(7, new int[][] {{1, 2, 5, 0}, {1, 2, 3, 0}, {1, 5, 4, 0}, {1, 3, 4, 0}, {1, 2, 6, 0}});
        due.parents("diamond:", x, 2, 3, 5, 6);
        due.parents("diamond:", x, 3, 4);
        due.parents("diamond:", x, 5, 4);
        due.parents("diamond:", x, 6, 0);
    }

    private static void parentsOfSameClasses() {
        ElCompletion x = Make.made(6, new int[][] {{1, 2, 5, 0}, {1, 5, 2, 0}, {1, 2, 3, 0}, {1, 5, 4, 0}});
        due.parents("of same classes:", x, 2, 3, 4);
        due.parents("of same classes:", x, 5, 3, 4);
    }

    private static void parentsAreLeastNumbers() {
        ElCompletion x = Make.made(7, new int[][] {{1, 2, 5, 0}, {1, 5, 4, 0}, {1, 4, 5, 0}, {1, 5, 3, 0}, {1, 3, 6, 0}, {1, 6, 3, 0}});
        due.parents("least numbers:", x, 2, 4);
        due.parents("least numbers:", x, 4, 3);
        due.parents("least numbers:", x, 5, 3);
        due.parents("least numbers:", x, 3, 0);
        due.parents("least numbers:", x, 6, 0);
    }

    private static void classesTheSameAsTop() {
        ElCompletion x = Make.made(4, new int[][] {{1, 0, 2, 0}});
        due.is("same(2) as TOP", x.same(2), 0);
        due.parents("the same as TOP:", x, 2);
        due.parents("below TOP and its same:", x, 3, 0);
    }

    private static void emptyClassesHaveNoParents() {
        ElCompletion x = Make.made(4, new int[][] {{1, 2, 3, 0}, {1, 2, 1, 0}});
        due.is("empty(2)", x.empty(2), 1);
        due.parents("empty:", x, 2);
        due.parents("not empty:", x, 3, 0);
        x.drop(1);
        due.parents("not empty any more:", x, 2, 3);
    }

    private static void everythingEmpty() {
        ElCompletion x = Make.made(4, new int[][] {{1, 0, 1, 0}});
        due.is("all empty: empty(0)", x.empty(0), 1);
        due.is("all empty: same(1)", x.same(1), 0);
        due.is("all empty: same(3)", x.same(3), 3);
        for (int a = 0; a < 4; a++) {
            due.parents("all empty:", x, a);
        }
    }

    private static void wrongArguments() {
        ElCompletion x = Make.made(4, new int[][] {{1, 2, 3, 0}});
        for (int a : new int[] {4, 5, 24, 4032, FAR[0], FAR[1], FAR[2]}) {
            due.is("empty(" + a + ")", x.empty(a), BAD);
            due.is("same(" + a + ")", x.same(a), BAD);
            due.is("parent(" + a + ", 0)", x.parent(a, 0), BAD);
        }
        for (int i : FAR) {
            due.is("parent(2, " + i + ")", x.parent(2, i), BAD);
        }
    }
}
