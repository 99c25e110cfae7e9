/** Promises 1 to 4: a new object, classes, axioms. */
public final class StateTest {
    private static final int BAD = ElCompletion.BAD;
    private static final int FULL = ElCompletion.FULL;
    private static final int[] FAR = {-1, Integer.MIN_VALUE, Integer.MAX_VALUE};
    private static final Due due = new Due();

    public static void main(String[] args) {
        aNewObject();
        constants();
        grow();
        axiomNumbers();
        axiomPlaces();
        axiomPlacesNotLookedAt();
        axiomsFull();
        drop();
        dropOfWrongNumbers();
        objectsAreApart();
        due.end();
    }

    private static void constants() {
        due.is("BAD", ElCompletion.BAD, -1);
        due.is("FULL", ElCompletion.FULL, -2);
    }

    private static void aNewObject() {
        ElCompletion x = new ElCompletion();
        due.is("new: sub(0, 0)", x.sub(0, 0), 1);
        due.is("new: sub(0, 1)", x.sub(0, 1), 0);
        due.is("new: sub(1, 0)", x.sub(1, 0), 1);
        due.is("new: sub(1, 1)", x.sub(1, 1), 1);
        due.is("new: sub(2, 0)", x.sub(2, 0), BAD);
        due.is("new: drop(0)", x.drop(0), BAD);
        due.is("new: row(0)", x.row(0), BAD);
        due.is("new: rounds()", x.rounds(), 1);
        due.facts("new:", x, 0, 24, 25);
        for (int r = 0; r < 6; r++) {
            due.is("new: link(1, " + r + ", 1)", x.link(1, r, 1), 0);
        }
    }

    private static void grow() {
        ElCompletion x = new ElCompletion();
        for (int a = 2; a < 24; a++) {
            due.is("sub of a class to come", x.sub(a, 0), BAD);
            due.is("grow()", x.grow(), a);
            due.is("sub of the class that came", x.sub(a, 0), 1);
            due.is("facts() with the class that came", x.facts(), 2 * (a + 1) - 1);
        }
        due.is("grow() of 24", x.grow(), FULL);
        due.is("grow() of 24, again", x.grow(), FULL);
        due.is("facts() of 24", x.facts(), 47);
        due.is("sub(24, 0)", x.sub(24, 0), BAD);
    }

    private static void axiomNumbers() {
        ElCompletion x = Make.made(4);
        due.is("axiom 1 A B", x.axiom(1, 2, 3, 0), 0);
        due.is("axiom 2 A B C", x.axiom(2, 2, 3, 1), 1);
        due.is("axiom 3 A r B", x.axiom(3, 3, 5, 3), 2);
        due.is("axiom 4 r A B", x.axiom(4, 5, 3, 3), 3);
        due.is("axiom 5 r s", x.axiom(5, 5, 5, 0), 4);
        due.is("axiom 6 r s t", x.axiom(6, 5, 5, 5), 5);
        due.is("axiom 7 r", x.axiom(7, 5, 0, 0), 6);
        due.is("the same axiom again", x.axiom(7, 5, 0, 0), 7);
        int[] none = {0, 8, 9, 100, -1, -7, Integer.MIN_VALUE, Integer.MAX_VALUE};
        for (int kind : none) {
            due.is("axiom of kind " + kind, x.axiom(kind, 0, 0, 0), BAD);
        }
        due.is("what was BAD is not there", x.axiom(1, 0, 0, 0), 8);
    }

    /** 'c' a class, 'r' a role, '-' nothing: by kinds, from 1. */
    private static final String[] PLACES = {"cc-", "ccc", "crc", "rcc", "rr-", "rrr", "r--"};

    private static void axiomPlaces() {
        for (int kind = 1; kind <= 7; kind++) {
            for (int place = 0; place < 3; place++) {
                char what = PLACES[kind - 1].charAt(place);
                if (what != '-') {
                    onePlace(kind, place, what == 'c' ? 8 : 6);
                }
            }
        }
        ElCompletion x = new ElCompletion();
        due.is("a class to come", x.axiom(1, 0, 2, 0), BAD);
        x.grow();
        due.is("the class that came", x.axiom(1, 0, 2, 0), 0);
        due.is("a role in the place of more classes", x.axiom(3, 0, 5, 2), 1);
    }

    /** With 8 classes and 6 roles the two are told apart by 6 and 7. */
    private static void onePlace(int kind, int place, int end) {
        ElCompletion x = Make.made(8);
        int[] n = new int[3];
        for (int value = 0; value < end; value++) {
            n[place] = value;
            due.is(text(kind, n), x.axiom(kind, n[0], n[1], n[2]), value);
        }
        for (int value : new int[] {end, end + 1, 24, FAR[0], FAR[1], FAR[2]}) {
            n[place] = value;
            due.is(text(kind, n), x.axiom(kind, n[0], n[1], n[2]), BAD);
        }
    }

    private static void axiomPlacesNotLookedAt() {
        for (int far : FAR) {
            ElCompletion x = Make.made(4);
            due.is("1 A B with " + far, x.axiom(1, 2, 3, far), 0);
            due.is("5 r s with " + far, x.axiom(5, 0, 1, far), 1);
            due.is("7 r with " + far, x.axiom(7, 0, far, far), 2);
            due.is("sub(2, 3)", x.sub(2, 3), 1);
            due.is("link(2, 1, 2)", x.link(2, 1, 2), 1);
        }
    }

    private static String text(int kind, int[] n) {
        return "axiom(" + kind + ", " + n[0] + ", " + n[1] + ", " + n[2] + ")";
    }

    private static void axiomsFull() {
        ElCompletion x = Make.made(4);
        for (int k = 0; k < 79; k++) {
            due.is("axiom " + k, x.axiom(7, 0, 0, 0), k);
        }
        due.is("axiom 79", x.axiom(1, 2, 3, 0), 79);
        due.is("the last axiom speaks", x.told(51, 1), 79);
        due.is("axiom 80", x.axiom(1, 3, 2, 0), FULL);
        due.is("what was FULL is not there", x.sub(3, 2), 0);
        due.is("BAD is told before FULL: kind", x.axiom(8, 0, 0, 0), BAD);
        due.is("BAD is told before FULL: class", x.axiom(1, 4, 0, 0), BAD);
        due.is("drop(79)", x.drop(79), 79);
        due.is("sub(2, 3)", x.sub(2, 3), 0);
        due.is("room again", x.axiom(1, 3, 2, 0), 79);
        due.is("sub(3, 2)", x.sub(3, 2), 1);
        due.is("axiom 80, again", x.axiom(1, 3, 2, 0), FULL);
    }

    private static void drop() {
        ElCompletion x = Make.made(6);
        x.axiom(1, 2, 3, 0);
        x.axiom(3, 2, 1, 4);
        x.axiom(4, 1, 4, 5);
        x.axiom(2, 3, 5, 1);
        due.told("four axioms:", x, 49, 3, 3, 51, 53);
        due.is("drop(0) of four", x.drop(0), 3);
        due.is("the dropped axiom is silent", x.sub(2, 3), 0);
        due.is("what came of it is not there", x.empty(2), 0);
        due.told("those behind have a number less:", x, 53, 2, 1, 892, 100);
        due.is("its place is the last one", x.axiom(1, 2, 3, 0), 3);
        due.told("moved axioms:", x, 49, 3, 2, 51, 53);
        due.told("moved axioms:", x, 51, 1, 3, 50, BAD);
        due.is("drop(3) of four", x.drop(3), 3);
        due.is("drop(1) of three", x.drop(1), 2);
        due.is("link stays", x.link(2, 1, 4), 1);
        due.is("drop(1) of two", x.drop(1), 1);
        due.is("drop(1) of one", x.drop(1), BAD);
        due.is("drop(0) of one", x.drop(0), 0);
        due.is("drop(0) of none", x.drop(0), BAD);
        due.is("facts() of none", x.facts(), 11);
    }

    private static void dropOfWrongNumbers() {
        ElCompletion x = Make.made(4);
        x.axiom(1, 2, 3, 0);
        for (int far : FAR) {
            due.is("drop(" + far + ")", x.drop(far), BAD);
        }
        due.is("drop(1)", x.drop(1), BAD);
        due.is("drop(80)", x.drop(80), BAD);
        due.is("nothing went", x.sub(2, 3), 1);
    }

    private static void objectsAreApart() {
        ElCompletion x = Make.made(4);
        ElCompletion y = Make.made(3);
        x.axiom(1, 2, 3, 0);
        due.is("y has no axiom", y.axiom(1, 0, 2, 0), 0);
        due.is("y has no class 3", y.sub(2, 3), BAD);
        due.is("x has not y's axiom", x.sub(0, 2), 0);
        x.trace(51);
        due.is("y has no proof", y.row(0), BAD);
    }
}
