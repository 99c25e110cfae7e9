import java.util.ArrayList;
import java.util.List;
import java.util.Random;

/** Runs of calls made by fixed seeds, on the class and on the slow reading of the document beside it. */
public final class ReferenceTest {
    private static final Due due = new Due();
    private final Random random;
    private final String name;
    private final List<int[]> changes = new ArrayList<>();
    private final Reference y = new Reference();
    private Counted x = new Counted();
    private int classes = 2;
    private int axioms = 0;

    private ReferenceTest(long seed) {
        random = new Random(seed);
        name = "seed " + seed + ": ";
    }

    public static void main(String[] args) {
        due.sentence("All promises: mixed calls");
        for (long seed = 0; seed < 400; seed++) {
            new ReferenceTest(seed).mixedRun(120);
        }
        due.sentence("All promises: every answer of a few axioms");
        for (long seed = 1000; seed < 1150; seed++) {
            ReferenceTest run = new ReferenceTest(seed);
            run.build(run.random.nextInt(7), 1 + run.random.nextInt(14));
            run.everything();
        }
        due.sentence("All promises: answers of many axioms");
        for (long seed = 2000; seed < 2010; seed++) {
            ReferenceTest run = new ReferenceTest(seed);
            run.build(22, 30 + run.random.nextInt(51));
            run.everything();
        }
        due.end();
    }

    private void is(String call, long got, long want) {
        due.is(name + call, got, want);
    }

    private void build(int more, int wanted) {
        for (int i = 0; i < more; i++) {
            grow();
        }
        for (int k = 0; k < wanted; k++) {
            axiom();
        }
    }

    private void grow() {
        int got = x.grow();
        is("grow()", got, y.grow());
        changes.add(new int[0]);
        classes += got >= 0 ? 1 : 0;
    }

    private void axiom() {
        int kind = random.nextInt(40) == 0 ? random.nextInt(20) - 6 : 1 + random.nextInt(7);
        int a = kind >= 4 ? aRole() : aClass();
        int b = kind == 3 || kind == 5 || kind == 6 ? aRole() : aClass();
        int c = kind == 6 ? aRole() : aClass();
        int got = x.axiom(kind, a, b, c);
        is("axiom(" + kind + ", " + a + ", " + b + ", " + c + ")", got, y.axiom(kind, a, b, c));
        axioms += got >= 0 ? 1 : 0;
        changes.add(new int[] {kind, a, b, c});
    }

    /** An object that has no such number of calls left gives way to a new one with the same classes and axioms. */
    private void haveCallsLeft(int wanted) {
        if (x.callsLeft() >= wanted) {
            return;
        }
        x = new Counted();
        for (int[] n : changes) {
            if (n.length == 0) {
                x.grow();
            } else {
                x.axiom(n[0], n[1], n[2], n[3]);
            }
        }
    }

    private int aClass() {
        return random.nextInt(50) == 0 ? aWrongNumber() : random.nextInt(classes);
    }

    private int aRole() {
        return random.nextInt(50) == 0 ? aWrongNumber() : random.nextInt(random.nextBoolean() ? 3 : 6);
    }

    /** Near those that there are (it may hit one), or far from all. */
    private int aWrongNumber() {
        if (random.nextInt(3) > 0) {
            return random.nextInt(60) - 20;
        }
        return TestBase.NEVER[random.nextInt(TestBase.NEVER.length)];
    }

    private int aCode() {
        int count = y.facts();
        switch (random.nextInt(8)) {
            case 0:
                return random.nextInt(4200) - 80;
            case 1:
                return 24 * aClass() + aClass();
            default:
                return y.fact(count - 1 - random.nextInt(1 + random.nextInt(count)));
        }
    }

    private void drop() {
        int k = random.nextInt(axioms + 2) - 1;
        int got = x.drop(k);
        is("drop(" + k + ")", got, y.drop(k));
        axioms -= got >= 0 ? 1 : 0;
    }

    private void fact(int i) {
        Integer want = y.fact(i);
        if (want == null) {
            due.noFact(name, x, i);
        } else {
            due.fact(name, x, i, want);
        }
    }

    private void told(int code) {
        for (int what = -1; what < 5; what++) {
            is("told(" + code + ", " + what + ")", x.told(code, what), y.told(code, what));
        }
    }

    private void trace(int code) {
        is("trace(" + code + ")", x.trace(code), y.trace(code));
    }

    private void rows() {
        for (int i = -1; i <= y.rowCount(); i++) {
            is("row(" + i + ")", x.row(i), y.row(i));
        }
    }

    private void mixedRun(int calls) {
        build(random.nextInt(6), random.nextInt(10));
        for (int i = 0; i < calls && x.callsLeft() > 6 + y.rowCount(); i++) {
            int which = random.nextInt(30);
            if (which == 0) {
                grow();
            } else if (which < 4) {
                axiom();
            } else if (which < 6) {
                drop();
            } else {
                ask(which);
            }
        }
    }

    private void ask(int which) {
        int a = aClass();
        int b = aClass();
        int r = aRole();
        switch (which % 11) {
            case 0 -> is("sub(" + a + ", " + b + ")", x.sub(a, b), y.sub(a, b));
            case 1 -> is("link(" + a + ", " + r + ", " + b + ")", x.link(a, r, b), y.link(a, r, b));
            case 2 -> is("rounds()", x.rounds(), y.rounds());
            case 3 -> is("facts()", x.facts(), y.facts());
            case 4 -> fact(random.nextInt(y.facts() + 2) - 1);
            case 5 -> told(aCode());
            case 6 -> trace(aCode());
            case 7 -> rows();
            case 8 -> is("empty(" + a + ")", x.empty(a), y.empty(a));
            case 9 -> is("same(" + a + ")", x.same(a), y.same(a));
            default -> is("parent(" + a + ", " + (b - 1) + ")", x.parent(a, b - 1), y.parent(a, b - 1));
        }
    }

    private void everything() {
        is("facts()", x.facts(), y.facts());
        is("rounds()", x.rounds(), y.rounds());
        int step = 1 + y.facts() / 150;
        for (int i = -1; i <= y.facts(); i += step) {
            haveCallsLeft(1);
            fact(i);
            Integer code = y.fact(i);
            if (code != null) {
                wholeFact(code);
            }
        }
        for (int a = 0; a < classes; a++) {
            wholeClass(a);
        }
    }

    private void wholeFact(int code) {
        int rows = y.trace(code);
        haveCallsLeft(9 + rows);
        told(code);
        is("trace(" + code + ")", x.trace(code), rows);
        rows();
    }

    private void wholeClass(int a) {
        haveCallsLeft(2 + 2 * classes);
        is("empty(" + a + ")", x.empty(a), y.empty(a));
        is("same(" + a + ")", x.same(a), y.same(a));
        for (int b = 0; b < classes; b++) {
            is("sub(" + a + ", " + b + ")", x.sub(a, b), y.sub(a, b));
            is("parent(" + a + ", " + b + ")", x.parent(a, b), y.parent(a, b));
        }
    }
}
