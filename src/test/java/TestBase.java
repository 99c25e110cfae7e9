import java.util.ArrayList;
import java.util.List;

/** What the tests of all promises share. */
abstract class TestBase {
    static final int BAD = -1;
    static final int FULL = -2;
    static final int CLASSES = 24;
    static final int ROLES = 6;
    static final int AXIOMS = 80;
    static final int CODES = 4032;
    static final Due due = new Due();

    /**
     * Never a class, role, number or code: too small, too large, and numbers that wrap around to
     * small ones when they are multiplied by 24, or when all but their last bits are lost.
     */
    static final int[] NEVER = {-1, -2, -24, Integer.MIN_VALUE, Integer.MIN_VALUE + 2, Integer.MAX_VALUE,
        4096, 1 << 16, (1 << 16) + 2, 1 << 24, 1 << 29, (1 << 29) + 2, 1 << 30, -(1 << 29)};

    /** NEVER, the first numbers that are no class, and those that wrap around as a count of bits. */
    static int[] noClasses(int classes) {
        return joined(NEVER, classes, classes + 1, CLASSES, CLASSES + 1, 32, 33, 34, 64, 256, 258);
    }

    static int[] noRoles() {
        return joined(NEVER, ROLES, ROLES + 1, CLASSES, 32, 33, 256, 258);
    }

    static int[] joined(int[] some, int... more) {
        int[] all = new int[some.length + more.length];
        System.arraycopy(some, 0, all, 0, some.length);
        System.arraycopy(more, 0, all, some.length, more.length);
        return all;
    }

    static int sub(int a, int b) {
        return 24 * a + b;
    }

    static int link(int a, int r, int b) {
        return 576 + 24 * (6 * a + r) + b;
    }

    static int[] ax(int kind, int a, int b, int c) {
        return new int[] {kind, a, b, c};
    }

    /** As many classes in all, and axioms as rows of kind, a, b, c, of which none may be refused. */
    static Counted made(int classes, int[]... axioms) {
        Counted x = new Counted();
        for (int a = 2; a < classes; a++) {
            x.grow();
        }
        for (int[] n : axioms) {
            add(x, n);
        }
        return x;
    }

    static void add(Counted x, int... n) {
        if (x.axiom(n[0], n[1], n[2], n[3]) < 0) {
            throw new IllegalStateException("the test's own axiom is refused");
        }
    }

    /** All 4032 facts follow: the largest state that there is. */
    static Counted everythingFollows() {
        Counted x = made(CLASSES);
        for (int a = 1; a < CLASSES; a++) {
            add(x, 1, 0, a, 0);
            add(x, 3, 0, 0, a);
        }
        add(x, 3, 0, 0, 0);
        for (int r = 1; r < ROLES; r++) {
            add(x, 5, 0, r, 0);
        }
        return x;
    }

    /**
     * A long way, of which each round goes one step: up the classes, then by role 0 down them,
     * then by role 1, by role 2, by role 3.
     */
    static Counted longWay(int classes) {
        int last = classes - 1;
        Counted x = made(classes);
        for (int a = 2; a < last; a++) {
            add(x, 1, a, a + 1, 0);
            add(x, 3, a + 1, 5, a);
        }
        add(x, 3, last, 0, last);
        add(x, 3, 2, 4, last);
        for (int r = 0; r < 4; r++) {
            add(x, 6, r, 5, r);
        }
        for (int r = 0; r < 3; r++) {
            add(x, 6, r, 4, r + 1);
        }
        return x;
    }

    /** All that follows, with rounds and reasons: for states of few facts. */
    static List<Integer> picture(Counted x) {
        List<Integer> all = new ArrayList<>();
        all.add(x.rounds());
        int count = x.facts();
        for (int i = 0; i < count; i++) {
            int code = x.fact(i);
            all.add(code);
            for (int what = 0; what < 4; what++) {
                all.add(x.told(code, what));
            }
        }
        return all;
    }
}
