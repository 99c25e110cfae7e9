import java.util.function.IntSupplier;

/** Counts the calls whose answer is not the one that is due, and prints each. */
final class Due {
    private static final int MOST_PRINTED = 40;
    private int looked = 0;
    private int wrong = 0;

    void is(String call, long got, long want) {
        looked++;
        if (got != want) {
            report(call + " answered " + got + ", due is " + want);
        }
    }

    /** The answers of all calls fact(0), fact(1), .. and the exception behind the last one. */
    void facts(String where, ElCompletion x, int... codes) {
        is(where + " facts()", x.facts(), codes.length);
        for (int i = 0; i < codes.length; i++) {
            is(where + " fact(" + i + ")", x.fact(i), codes[i]);
        }
        throwsIndex(where + " fact(" + codes.length + ")", () -> x.fact(codes.length));
    }

    /** The answer of trace, all its rows, and BAD behind the last one. */
    void proof(String where, ElCompletion x, int code, int... rows) {
        is(where + " trace(" + code + ")", x.trace(code), rows.length);
        rows(where, x, rows);
    }

    void rows(String where, ElCompletion x, int... rows) {
        for (int i = 0; i < rows.length; i++) {
            is(where + " row(" + i + ")", x.row(i), rows[i]);
        }
        is(where + " row(" + rows.length + ")", x.row(rows.length), ElCompletion.BAD);
    }

    /** The answers of told(code, 0) to told(code, 3). */
    void told(String where, ElCompletion x, int code, int... answers) {
        for (int what = 0; what < answers.length; what++) {
            is(where + " told(" + code + ", " + what + ")", x.told(code, what), answers[what]);
        }
    }

    /** All parents of a class, and BAD behind the last one. */
    void parents(String where, ElCompletion x, int a, int... parents) {
        for (int i = 0; i < parents.length; i++) {
            is(where + " parent(" + a + ", " + i + ")", x.parent(a, i), parents[i]);
        }
        is(where + " parent(" + a + ", " + parents.length + ")", x.parent(a, parents.length), ElCompletion.BAD);
    }

    void throwsIndex(String call, IntSupplier answer) {
        looked++;
        try {
            report(call + " answered " + answer.getAsInt() + ", due is ArrayIndexOutOfBoundsException");
        } catch (RuntimeException e) {
            if (e.getClass() != ArrayIndexOutOfBoundsException.class) {
                report(call + " threw " + e + ", due is ArrayIndexOutOfBoundsException");
            }
        }
    }

    void report(String text) {
        wrong++;
        if (wrong <= MOST_PRINTED) {
            System.out.println(text);
        }
    }

    void end() {
        System.out.println(looked + " answers looked at, " + wrong + " not as due");
        if (wrong != 0 || looked == 0) {
            System.exit(1);
        }
    }
}
