import java.util.Arrays;

/**
 * Classes and roles with axioms of a small logic: what follows by its rules, in which round, for
 * which reason, with whole proofs; which classes are empty, which are the same, which stand right
 * above which. ../shared/DOC.md has the promises that the methods name.
 */
public final class ElCompletion {
    public static final int BAD = -1;
    public static final int FULL = -2;

    private static final int TOP = 0;
    private static final int BOTTOM = 1;
    private static final int CLASS_LIMIT = 24;
    private static final int ROLE_LIMIT = 6;
    private static final int AXIOM_LIMIT = 80;

    /** The codes of SUB facts stand below this one, those of LINK facts from it on. */
    private static final int FIRST_LINK = CLASS_LIMIT * CLASS_LIMIT;
    private static final int CODE_LIMIT = FIRST_LINK + CLASS_LIMIT * ROLE_LIMIT * CLASS_LIMIT;

    /** A column is a fact without its first class: SUB . b, or LINK . r b. */
    private static final int COLUMN_LIMIT = CLASS_LIMIT + ROLE_LIMIT * CLASS_LIMIT;

    /** What the document tells as the axiom of the rule that has none. */
    private static final int RULE_OF_BOTTOM = 100;
    private static final int NO_AXIOM = 255;
    private static final int NO_CODE = 4095;

    private final Axioms axioms = new Axioms();
    private final Closure closure = new Closure();
    private final Proof proof = new Proof();
    private int classCount = 2;
    private boolean stale = true;

    /** Promise 1. */
    public ElCompletion() {
    }

    /** Promise 2. */
    public int grow() {
        if (classCount >= CLASS_LIMIT) {
            return FULL;
        }
        stale = true;
        classCount++;
        return classCount - 1;
    }

    /** Promise 3. */
    public int axiom(int kind, int a, int b, int c) {
        if (!isAxiom(kind, a, b, c)) {
            return BAD;
        }
        if (axioms.count >= AXIOM_LIMIT) {
            return FULL;
        }
        stale = true;
        return axioms.append(kind, a, b, c);
    }

    /** Promise 4. */
    public int drop(int k) {
        if (k < 0 || k >= axioms.count) {
            return BAD;
        }
        stale = true;
        return axioms.remove(k);
    }

    /** Promise 5. */
    public int sub(int a, int b) {
        if (!isClass(a) || !isClass(b)) {
            return BAD;
        }
        return closed().has(a, b) ? 1 : 0;
    }

    /** Promise 6. */
    public int link(int a, int r, int b) {
        if (!isClass(a) || !isRole(r) || !isClass(b)) {
            return BAD;
        }
        return closed().has(a, linkColumn(r, b)) ? 1 : 0;
    }

    /** Promise 7. */
    public int rounds() {
        return closed().roundCount;
    }

    /** Promise 8. */
    public int facts() {
        return closed().factCount;
    }

    /** Promise 9. */
    public int fact(int i) throws ArrayIndexOutOfBoundsException {
        Closure all = closed();
        if (i < 0 || i >= all.factCount) {
            throw new ArrayIndexOutOfBoundsException("no fact has this number");
        }
        return all.order[i];
    }

    /** Promise 10. */
    public int told(int code, int what) {
        Closure all = closed();
        if (!all.follows(code)) {
            return BAD;
        }
        switch (what) {
            case 0:
                return all.roundOf(code);
            case 1:
                return all.axiomOf(code);
            case 2:
                return all.firstPremiseOf(code);
            case 3:
                return all.secondPremiseOf(code);
            default:
                return BAD;
        }
    }

    /** Promise 11. */
    public int trace(int code) {
        proof.take(closed(), code);
        return proof.count;
    }

    /** Promise 12. */
    public int row(int i) {
        if (i < 0 || i >= proof.count) {
            return BAD;
        }
        return proof.rows[i];
    }

    /** Promise 13. */
    public int empty(int a) {
        if (!isClass(a)) {
            return BAD;
        }
        return closed().has(a, BOTTOM) ? 1 : 0;
    }

    /** Promise 14. */
    public int same(int a) {
        if (!isClass(a)) {
            return BAD;
        }
        return closed().leastSame(a);
    }

    /** Promise 15. */
    public int parent(int a, int i) {
        if (!isClass(a) || i < 0) {
            return BAD;
        }
        return closed().parentOf(a, i);
    }

    private boolean isClass(int a) {
        return a >= 0 && a < classCount;
    }

    private static boolean isRole(int r) {
        return r >= 0 && r < ROLE_LIMIT;
    }

    private boolean isAxiom(int kind, int a, int b, int c) {
        switch (kind) {
            case Axioms.BELOW:
                return isClass(a) && isClass(b);
            case Axioms.BOTH:
                return isClass(a) && isClass(b) && isClass(c);
            case Axioms.EACH_HAS:
                return isClass(a) && isRole(b) && isClass(c);
            case Axioms.WHAT_HAS:
                return isRole(a) && isClass(b) && isClass(c);
            case Axioms.ROLE_BELOW:
                return isRole(a) && isRole(b);
            case Axioms.CHAIN:
                return isRole(a) && isRole(b) && isRole(c);
            case Axioms.OF_ITSELF:
                return isRole(a);
            default:
                return false;
        }
    }

    /** Works out what follows only when it is asked for, so a row of new axioms costs little. */
    private Closure closed() {
        if (stale) {
            closure.fill(axioms, classCount);
            stale = false;
        }
        return closure;
    }

    /** SUB . b has the column b; the columns of links stand behind these. */
    private static int linkColumn(int r, int b) {
        return CLASS_LIMIT + CLASS_LIMIT * r + b;
    }

    private static int codeOf(int a, int column) {
        if (column < CLASS_LIMIT) {
            return CLASS_LIMIT * a + column;
        }
        return FIRST_LINK + ROLE_LIMIT * CLASS_LIMIT * a + column - CLASS_LIMIT;
    }

    private static boolean isIn(int a, int classes) {
        return (classes >> a & 1) != 0;
    }

    /** The axioms by their numbers. Classes and roles have been looked at before they come here. */
    private static final class Axioms {
        private static final int BELOW = 1;
        private static final int BOTH = 2;
        private static final int EACH_HAS = 3;
        private static final int WHAT_HAS = 4;
        private static final int ROLE_BELOW = 5;
        private static final int CHAIN = 6;
        private static final int OF_ITSELF = 7;

        private final int[] kind = new int[AXIOM_LIMIT];
        private final int[] a = new int[AXIOM_LIMIT];
        private final int[] b = new int[AXIOM_LIMIT];
        private final int[] c = new int[AXIOM_LIMIT];
        private int count = 0;

        private int append(int newKind, int newA, int newB, int newC) {
            if (count >= AXIOM_LIMIT) {
                return FULL;
            }
            kind[count] = newKind;
            a[count] = newA;
            b[count] = newB;
            c[count] = newC;
            count++;
            return count - 1;
        }

        private int remove(int k) {
            if (k < 0 || k >= count) {
                return BAD;
            }
            count--;
            closeGap(kind, k);
            closeGap(a, k);
            closeGap(b, k);
            closeGap(c, k);
            return count;
        }

        private void closeGap(int[] numbers, int k) {
            System.arraycopy(numbers, k + 1, numbers, k, count - k);
        }
    }

    /**
     * All facts that follow. A column holds, a bit each, the classes a of its facts, so that one
     * rule is tried for all a at once.
     */
    private static final class Closure {
        private final int[] before = new int[COLUMN_LIMIT];
        private final int[] now = new int[COLUMN_LIMIT];

        /**
         * For each code -1, or the fact's round, axiom and premises in one number: four rows of
         * their own would make a new object nearly twice as large.
         */
        private final long[] grounds = new long[CODE_LIMIT];
        private final int[] order = new int[CODE_LIMIT];
        private int classCount = 0;
        private int factCount = 0;
        private int roundCount = 0;

        /** The classes a that have got a fact in the round that is being made. */
        private int gainers = 0;

        private void fill(Axioms axioms, int classes) {
            clear(classes);
            giveAtFirst(axioms);
            endRound();
            for (int round = 1; round < CODE_LIMIT && gainers != 0; round++) {
                System.arraycopy(now, 0, before, 0, COLUMN_LIMIT);
                gainers = 0;
                // The order of axioms, and in them of premises, makes the first reason found the least.
                for (int k = 0; k < axioms.count; k++) {
                    giveByAxiom(axioms, k);
                }
                for (int r = 0; r < ROLE_LIMIT; r++) {
                    giveToWhatHas(RULE_OF_BOTTOM, r, BOTTOM, BOTTOM);
                }
                endRound();
            }
        }

        private void clear(int classes) {
            Arrays.fill(before, 0);
            Arrays.fill(now, 0);
            Arrays.fill(grounds, -1L);
            classCount = classes;
            factCount = 0;
            roundCount = 0;
            gainers = 0;
        }

        private void giveAtFirst(Axioms axioms) {
            for (int a = 0; a < classCount; a++) {
                give(1 << a, a, NO_AXIOM, NO_CODE, NO_CODE);
                give(1 << a, TOP, NO_AXIOM, NO_CODE, NO_CODE);
            }
            for (int k = 0; k < axioms.count; k++) {
                if (axioms.kind[k] == Axioms.OF_ITSELF) {
                    giveOfItself(axioms.a[k]);
                }
            }
        }

        private void giveOfItself(int r) {
            for (int a = 0; a < classCount; a++) {
                give(1 << a, linkColumn(r, a), NO_AXIOM, NO_CODE, NO_CODE);
            }
        }

        private void giveByAxiom(Axioms axioms, int k) {
            int a = axioms.a[k];
            int b = axioms.b[k];
            int c = axioms.c[k];
            switch (axioms.kind[k]) {
                case Axioms.BELOW:
                    give(before[a], b, k, a, NO_CODE);
                    break;
                case Axioms.BOTH:
                    giveToBoth(k, a, b, c);
                    break;
                case Axioms.EACH_HAS:
                    give(before[a], linkColumn(b, c), k, a, NO_CODE);
                    break;
                case Axioms.WHAT_HAS:
                    giveToWhatHas(k, a, b, c);
                    break;
                case Axioms.ROLE_BELOW:
                    giveRole(k, a, b);
                    break;
                case Axioms.CHAIN:
                    giveChain(k, a, b, c);
                    break;
                default:
                    break;
            }
        }

        private void giveToBoth(int k, int one, int other, int target) {
            int fresh = before[one] & before[other] & ~now[target];
            for (int a = 0; a < classCount && fresh != 0; a++) {
                if (isIn(a, fresh)) {
                    give(1 << a, target, k, one, codeOf(a, other));
                }
            }
        }

        private void giveToWhatHas(int k, int r, int kindOfThing, int target) {
            int things = before[kindOfThing];
            for (int b = 0; b < classCount; b++) {
                if (isIn(b, things)) {
                    int first = linkColumn(r, b);
                    give(before[first], target, k, first, codeOf(b, kindOfThing));
                }
            }
        }

        private void giveRole(int k, int r, int s) {
            for (int b = 0; b < classCount; b++) {
                int first = linkColumn(r, b);
                give(before[first], linkColumn(s, b), k, first, NO_CODE);
            }
        }

        private void giveChain(int k, int r, int s, int t) {
            for (int c = 0; c < classCount; c++) {
                int second = linkColumn(s, c);
                int middles = before[second];
                for (int b = 0; b < classCount && middles != 0; b++) {
                    if (isIn(b, middles)) {
                        int first = linkColumn(r, b);
                        give(before[first], linkColumn(t, c), k, first, codeOf(b, second));
                    }
                }
            }
        }

        /** Gives the fact of a column to all of these classes that do not have it. */
        private void give(int classes, int column, int axiom, int firstColumn, int second) {
            int fresh = classes & ~now[column];
            if (fresh == 0) {
                return;
            }
            now[column] |= fresh;
            gainers |= fresh;
            for (int a = 0; a < classCount; a++) {
                if (isIn(a, fresh)) {
                    int first = firstColumn == NO_CODE ? NO_CODE : codeOf(a, firstColumn);
                    grounds[codeOf(a, column)] =
                        (long) roundCount << 32 | (long) axiom << 24 | (long) first << 12 | second;
                }
            }
        }

        /** Lists the facts of the round by their codes: the SUBs of all classes, then the LINKs. */
        private void endRound() {
            if (gainers == 0) {
                return;
            }
            listColumns(0, CLASS_LIMIT);
            listColumns(CLASS_LIMIT, COLUMN_LIMIT);
            roundCount++;
        }

        private void listColumns(int from, int end) {
            for (int a = 0; a < classCount; a++) {
                if (isIn(a, gainers)) {
                    listFactsOf(a, from, end);
                }
            }
        }

        private void listFactsOf(int a, int from, int end) {
            for (int column = from; column < end; column++) {
                if (isIn(a, now[column] & ~before[column]) && factCount < CODE_LIMIT) {
                    order[factCount] = codeOf(a, column);
                    factCount++;
                }
            }
        }

        private boolean has(int a, int column) {
            return isIn(a, now[column]);
        }

        private boolean follows(int code) {
            return code >= 0 && code < CODE_LIMIT && grounds[code] >= 0;
        }

        private int roundOf(int code) {
            return (int) (grounds[code] >> 32);
        }

        private int axiomOf(int code) {
            int axiom = (int) (grounds[code] >> 24) & NO_AXIOM;
            return axiom == NO_AXIOM ? BAD : axiom;
        }

        private int firstPremiseOf(int code) {
            int first = (int) (grounds[code] >> 12) & NO_CODE;
            return first == NO_CODE ? BAD : first;
        }

        private int secondPremiseOf(int code) {
            int second = (int) grounds[code] & NO_CODE;
            return second == NO_CODE ? BAD : second;
        }

        private boolean areSame(int a, int b) {
            return has(a, b) && has(b, a);
        }

        private int leastSame(int a) {
            for (int b = 0; b < a; b++) {
                if (areSame(a, b)) {
                    return b;
                }
            }
            return a;
        }

        private int parentOf(int a, int i) {
            if (has(a, BOTTOM)) {
                return BAD;
            }
            int met = 0;
            for (int b = 0; b < classCount; b++) {
                if (isParent(a, b)) {
                    if (met == i) {
                        return b;
                    }
                    met++;
                }
            }
            return BAD;
        }

        private boolean isParent(int a, int b) {
            if (!has(a, b) || has(b, a) || leastSame(b) != b) {
                return false;
            }
            for (int c = 0; c < classCount; c++) {
                if (has(a, c) && has(c, b) && !areSame(c, a) && !areSame(c, b)) {
                    return false;
                }
            }
            return true;
        }
    }

    /** The rows of the latest proof, kept apart from the facts: these change, the proof does not. */
    private static final class Proof {
        private final int[] rows = new int[CODE_LIMIT];
        private final long[] needed = new long[CODE_LIMIT / 64];
        private int count = 0;

        private void take(Closure all, int code) {
            count = 0;
            if (!all.follows(code)) {
                return;
            }
            Arrays.fill(needed, 0L);
            need(code);
            // Premises are of earlier rounds: walking back, a fact is met behind all that need it.
            for (int i = all.factCount - 1; i >= 0; i--) {
                if (isNeeded(all.order[i])) {
                    need(all.firstPremiseOf(all.order[i]));
                    need(all.secondPremiseOf(all.order[i]));
                }
            }
            for (int i = 0; i < all.factCount; i++) {
                if (isNeeded(all.order[i])) {
                    rows[count] = all.order[i];
                    count++;
                }
            }
        }

        private void need(int code) {
            if (code >= 0 && code < CODE_LIMIT) {
                needed[code >> 6] |= 1L << (code & 63);
            }
        }

        private boolean isNeeded(int code) {
            return (needed[code >> 6] >> (code & 63) & 1L) != 0;
        }
    }
}
