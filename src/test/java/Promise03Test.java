import java.util.List;

/** Promise 3: axiom. */
public final class Promise03Test extends TestBase {
    /** 'c' a class, 'r' a role, '-' a number that the kind does not have: by kinds, from 1. */
    private static final String[] PLACES = {"cc-", "ccc", "crc", "rcc", "rr-", "rrr", "r--"};

    public static void main(String[] args) {
        anAxiomMoreItsNumber();
        notLookedAt();
        notLookedAtAndNotUsed();
        badWhenKindIsNone();
        badWhenAClassOrRoleIsNone();
        badWhenAClassIsNoneThatIsThere();
        badChangesNothing();
        full();
        fullChangesNothing();
        badBeforeFull();
        due.end();
    }

    private static String text(int kind, int... n) {
        return "axiom(" + kind + ", " + n[0] + ", " + n[1] + ", " + n[2] + ")";
    }

    private static void anAxiomMoreItsNumber() {
        due.sentence("Promise 3: An axiom more: its number");
        Counted x = made(4);
        due.is("1 A B", x.axiom(1, 2, 3, 0), 0);
        due.is("2 A B C", x.axiom(2, 2, 3, 1), 1);
        due.is("3 A r B", x.axiom(3, 3, 5, 3), 2);
        due.is("4 r A B", x.axiom(4, 5, 3, 3), 3);
        due.is("5 r s", x.axiom(5, 5, 5, 0), 4);
        due.is("6 r s t", x.axiom(6, 5, 5, 5), 5);
        due.is("7 r", x.axiom(7, 5, 0, 0), 6);
        due.is("the same one again", x.axiom(7, 5, 0, 0), 7);
        due.is("one that says nothing new", x.axiom(1, 0, 0, 0), 8);
        due.is("told by its number", x.told(sub(2, 3), 1), 0);
        due.is("told by its number", x.told(sub(2, 1), 1), 1);
        due.is("told by its number", x.told(link(2, 5, 3), 1), 2);
    }

    private static void notLookedAt() {
        due.sentence("Promise 3: numbers that its kind does not have are not looked at");
        for (int far : joined(NEVER, 4, 6, 24, 80)) {
            Counted x = made(4);
            due.is(text(1, 2, 3, far), x.axiom(1, 2, 3, far), 0);
            due.is(text(5, 0, 1, far), x.axiom(5, 0, 1, far), 1);
            due.is(text(7, 0, far, 0), x.axiom(7, 0, far, 0), 2);
            due.is(text(7, 0, 0, far), x.axiom(7, 0, 0, far), 3);
            due.is(text(7, 0, far, far), x.axiom(7, 0, far, far), 4);
        }
    }

    private static void notLookedAtAndNotUsed() {
        due.sentence("Promise 3: numbers that its kind does not have change nothing of what it says");
        List<Integer> want = picture(made(4, ax(7, 2, 0, 0), ax(1, 2, 3, 0), ax(5, 2, 1, 0)));
        for (int far : joined(NEVER, 1, 2, 3, 4, 5)) {
            Counted x = made(4, ax(1, 0, 1, far), ax(7, 2, far, far), ax(1, 2, 3, far), ax(5, 2, 1, far));
            due.is("sub(2, 1) with " + far, x.sub(2, 1), 1);
            x.drop(0);
            due.is("all that follows with " + far, picture(x), want);
        }
    }

    private static void badWhenKindIsNone() {
        due.sentence("Promise 3: BAD when kind is none");
        Counted x = made(4);
        for (int kind : joined(NEVER, 0, 8, 9, 15, 16, 100, 256 + 7)) {
            due.is(text(kind, 0, 0, 0), x.axiom(kind, 0, 0, 0), BAD);
            due.is(text(kind, 2, 3, 0), x.axiom(kind, 2, 3, 0), BAD);
        }
        due.is("none of them is there", x.drop(0), BAD);
    }

    private static void badWhenAClassOrRoleIsNone() {
        due.sentence("Promise 3: BAD when a class or role is none");
        for (int kind = 1; kind <= 7; kind++) {
            for (int place = 0; place < 3; place++) {
                char what = PLACES[kind - 1].charAt(place);
                if (what != '-') {
                    onePlace(kind, place, what == 'c' ? 8 : ROLES, what == 'c' ? noClasses(8) : noRoles());
                }
            }
        }
    }

    /** With 8 classes and 6 roles the two are told apart by 6 and 7. */
    private static void onePlace(int kind, int place, int end, int[] none) {
        Counted x = made(8);
        int[] n = new int[3];
        for (int value = 0; value < end; value++) {
            n[place] = value;
            due.is(text(kind, n), x.axiom(kind, n[0], n[1], n[2]), value);
        }
        for (int value : none) {
            n[place] = value;
            due.is(text(kind, n), x.axiom(kind, n[0], n[1], n[2]), BAD);
        }
        due.is("none of those is there", x.drop(end), BAD);
    }

    private static void badWhenAClassIsNoneThatIsThere() {
        due.sentence("Promise 3: BAD when a class is none that is there");
        Counted x = new Counted();
        for (int a = 2; a < CLASSES; a++) {
            due.is("a class to come", x.axiom(1, a, 0, 0), BAD);
            due.is("a class to come", x.axiom(2, 0, 0, a), BAD);
            due.is("all roles are there from the first", x.axiom(6, 5, 5, 5), a - 2);
            x.grow();
        }
        due.is("class 24", x.axiom(1, 24, 0, 0), BAD);
        due.is("class 23", x.axiom(4, 5, 23, 23), 22);
        due.is("a role where there are more classes", x.axiom(3, 23, 6, 23), BAD);
    }

    private static void badChangesNothing() {
        due.sentence("Promise 3: BAD changes nothing");
        Counted x = made(4, ax(1, 2, 3, 0));
        due.is("trace", x.trace(sub(2, 3)), 2);
        List<Integer> then = picture(x);
        due.is("kind 8", x.axiom(8, 0, 1, 0), BAD);
        due.is("class 4", x.axiom(2, 0, 4, 1), BAD);
        due.is("role 6", x.axiom(5, 0, 6, 0), BAD);
        due.is("all that follows", picture(x), then);
        due.rows("the proof:", x, sub(2, 2), sub(2, 3));
        due.is("the next number", x.axiom(1, 3, 2, 0), 1);
    }

    private static Counted with79() {
        Counted x = made(4);
        for (int k = 0; k < AXIOMS - 1; k++) {
            due.is("axiom " + k, x.axiom(7, 0, 0, 0), k);
        }
        return x;
    }

    private static void full() {
        due.sentence("Promise 3: FULL");
        Counted x = with79();
        due.is("the 80th", x.axiom(1, 2, 3, 0), 79);
        due.is("the 80th speaks", x.told(sub(2, 3), 1), 79);
        due.is("the 81st", x.axiom(1, 3, 2, 0), FULL);
        due.is("and again", x.axiom(1, 3, 2, 0), FULL);
        due.is("drop(79)", x.drop(79), 79);
        due.is("sub(2, 3)", x.sub(2, 3), 0);
        due.is("there is room again", x.axiom(1, 3, 2, 0), 79);
        due.is("it speaks", x.told(sub(3, 2), 1), 79);
        due.is("no room again", x.axiom(1, 3, 2, 0), FULL);
    }

    private static void fullChangesNothing() {
        due.sentence("Promise 3: FULL changes nothing");
        Counted x = with79();
        add(x, 1, 2, 3, 0);
        x.trace(sub(2, 3));
        List<Integer> then = picture(x);
        due.is("the 81st", x.axiom(1, 3, 2, 0), FULL);
        due.is("the 81st", x.axiom(7, 1, 0, 0), FULL);
        due.is("all that follows", picture(x), then);
        due.rows("the proof:", x, sub(2, 2), sub(2, 3));
        due.is("80 are there", x.drop(80), BAD);
        due.is("80 are there", x.drop(79), 79);
    }

    private static void badBeforeFull() {
        due.sentence("Promise 3: BAD stands before FULL");
        Counted x = with79();
        add(x, 7, 0, 0, 0);
        due.is("kind", x.axiom(8, 0, 0, 0), BAD);
        due.is("class", x.axiom(1, 4, 0, 0), BAD);
        due.is("role", x.axiom(7, 6, 0, 0), BAD);
        due.is("nothing BAD", x.axiom(7, 5, -1, -1), FULL);
    }
}
