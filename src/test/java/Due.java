import java.util.List;
import java.util.function.IntSupplier;

/** Counts, sentence by sentence, the answers that are not as due, and prints each. */
final class Due {
    private static final int MOST_PRINTED = 40;
    private String sentence = "";
    private int looked = 0;
    private int wrong = 0;
    private int allLooked = 0;
    private int allWrong = 0;
    private boolean failed = false;

    /** The answers from here on hold the class to these words of the document. */
    void sentence(String words) {
        endSentence();
        sentence = words;
    }

    private void endSentence() {
        if (!sentence.isEmpty()) {
            System.out.println("  " + sentence + ": " + looked + " answers, " + wrong + " not as due");
            failed |= looked == 0;
        }
        allLooked += looked;
        allWrong += wrong;
        looked = 0;
        wrong = 0;
    }

    void is(String call, long got, long want) {
        looked++;
        if (got != want) {
            report(call + " answered " + got + ", due is " + want);
        }
    }

    void is(String what, List<Integer> got, List<Integer> want) {
        looked++;
        if (!got.equals(want)) {
            report(what + " answered " + got + ", due is " + want);
        }
    }

    /** The answers of all calls fact(0), fact(1), .. and the exception behind the last one. */
    void facts(String where, Counted x, int... codes) {
        is(where + " facts()", x.facts(), codes.length);
        for (int i = 0; i < codes.length; i++) {
            fact(where, x, i, codes[i]);
        }
        noFact(where, x, codes.length);
    }

    void fact(String where, Counted x, int i, int code) {
        looked++;
        try {
            int got = x.fact(i);
            if (got != code) {
                report(where + " fact(" + i + ") answered " + got + ", due is " + code);
            }
        } catch (RuntimeException e) {
            report(where + " fact(" + i + ") threw " + e + ", due is " + code);
        }
    }

    void noFact(String where, Counted x, int i) {
        throwsIndex(where + " fact(" + i + ")", () -> x.fact(i));
    }

    private void throwsIndex(String call, IntSupplier answer) {
        looked++;
        try {
            report(call + " answered " + answer.getAsInt() + ", due is ArrayIndexOutOfBoundsException");
        } catch (RuntimeException e) {
            if (e.getClass() != ArrayIndexOutOfBoundsException.class || isOfTheMachine(e)) {
                report(call + " threw " + e + ", due is the class's own ArrayIndexOutOfBoundsException");
            }
        }
    }

    /** The class has to look at an index before it is used: only the words tell who threw. */
    private static boolean isOfTheMachine(RuntimeException e) {
        return e.getMessage() != null && e.getMessage().contains("out of bounds for length");
    }

    /** The answer of trace, all its rows, and BAD behind the last one. */
    void proof(String where, Counted x, int code, int... rows) {
        is(where + " trace(" + code + ")", x.trace(code), rows.length);
        rows(where, x, rows);
    }

    void rows(String where, Counted x, int... rows) {
        for (int i = 0; i < rows.length; i++) {
            is(where + " row(" + i + ")", x.row(i), rows[i]);
        }
        is(where + " row(" + rows.length + ")", x.row(rows.length), -1);
    }

    /** The answers of told(code, 0), told(code, 1), .. */
    void told(String where, Counted x, int code, int... answers) {
        for (int what = 0; what < answers.length; what++) {
            is(where + " told(" + code + ", " + what + ")", x.told(code, what), answers[what]);
        }
    }

    /** All parents of a class, and BAD behind the last one. */
    void parents(String where, Counted x, int a, int... parents) {
        for (int i = 0; i < parents.length; i++) {
            is(where + " parent(" + a + ", " + i + ")", x.parent(a, i), parents[i]);
        }
        is(where + " parent(" + a + ", " + parents.length + ")", x.parent(a, parents.length), -1);
    }

    void report(String text) {
        wrong++;
        if (wrong <= MOST_PRINTED) {
            System.out.println("  " + sentence + ": " + text);
        }
    }

    void end() {
        endSentence();
        System.out.println(allLooked + " answers looked at, " + allWrong + " not as due");
        if (failed || allWrong != 0 || allLooked == 0) {
            System.exit(1);
        }
    }
}
