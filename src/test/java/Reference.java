import java.util.ArrayList;
import java.util.Comparator;
import java.util.HashMap;
import java.util.List;
import java.util.Map;
import java.util.TreeMap;
import java.util.TreeSet;

/** The document's words read as slowly as they stand: all rules on all facts, round by round. */
final class Reference {
    /** A SUB has the role -1. */
    record Fact(int a, int role, int b) {
        int code() {
            return role < 0 ? 24 * a + b : 576 + 24 * (6 * a + role) + b;
        }

        boolean isSub() {
            return role < 0;
        }
    }

    record Reason(int round, int axiom, int first, int second) {
        static final Comparator<Reason> LEAST = Comparator.comparingInt(Reason::axiom)
            .thenComparingInt(Reason::first).thenComparingInt(Reason::second);
    }

    record Axiom(int kind, int a, int b, int c) {
    }

    private final List<Axiom> axioms = new ArrayList<>();
    private int classes = 2;
    private Map<Fact, Reason> facts = null;
    private List<Integer> rows = new ArrayList<>();

    int grow() {
        if (classes == 24) {
            return -2;
        }
        facts = null;
        return classes++;
    }

    int axiom(int kind, int a, int b, int c) {
        String places = switch (kind) {
            case 1 -> "cc-";
            case 2 -> "ccc";
            case 3 -> "crc";
            case 4 -> "rcc";
            case 5 -> "rr-";
            case 6 -> "rrr";
            case 7 -> "r--";
            default -> "";
        };
        if (places.isEmpty() || !fits(places.charAt(0), a) || !fits(places.charAt(1), b) || !fits(places.charAt(2), c)) {
            return -1;
        }
        if (axioms.size() == 80) {
            return -2;
        }
        axioms.add(new Axiom(kind, a, b, c));
        facts = null;
        return axioms.size() - 1;
    }

    private boolean fits(char place, int n) {
        return place == '-' || n >= 0 && n < (place == 'c' ? classes : 6);
    }

    int drop(int k) {
        if (k < 0 || k >= axioms.size()) {
            return -1;
        }
        axioms.remove(k);
        facts = null;
        return axioms.size();
    }

    int sub(int a, int b) {
        if (!fits('c', a) || !fits('c', b)) {
            return -1;
        }
        return all().containsKey(new Fact(a, -1, b)) ? 1 : 0;
    }

    int link(int a, int r, int b) {
        if (!fits('c', a) || !fits('r', r) || !fits('c', b)) {
            return -1;
        }
        return all().containsKey(new Fact(a, r, b)) ? 1 : 0;
    }

    int rounds() {
        int most = 0;
        for (Reason reason : all().values()) {
            most = Math.max(most, reason.round);
        }
        return most + 1;
    }

    int facts() {
        return all().size();
    }

    /** Null stands for the exception. */
    Integer fact(int i) {
        List<Integer> sorted = sorted(new ArrayList<>(all().keySet()));
        return i < 0 || i >= sorted.size() ? null : sorted.get(i);
    }

    int told(int code, int what) {
        Reason reason = byCode(code);
        if (reason == null) {
            return -1;
        }
        return switch (what) {
            case 0 -> reason.round;
            case 1 -> reason.axiom;
            case 2 -> reason.first;
            case 3 -> reason.second;
            default -> -1;
        };
    }

    int trace(int code) {
        TreeSet<Integer> proof = new TreeSet<>();
        collect(code, proof);
        List<Fact> kept = new ArrayList<>();
        for (Fact f : all().keySet()) {
            if (proof.contains(f.code())) {
                kept.add(f);
            }
        }
        rows = sorted(kept);
        return rows.size();
    }

    private void collect(int code, TreeSet<Integer> proof) {
        Reason reason = byCode(code);
        if (reason != null && proof.add(code)) {
            collect(reason.first, proof);
            collect(reason.second, proof);
        }
    }

    int row(int i) {
        return i < 0 || i >= rows.size() ? -1 : rows.get(i);
    }

    int rowCount() {
        return rows.size();
    }

    int empty(int a) {
        return sub(a, 1);
    }

    private boolean areSame(int a, int b) {
        return sub(a, b) == 1 && sub(b, a) == 1;
    }

    int same(int a) {
        for (int b = 0; fits('c', a) && b < classes; b++) {
            if (areSame(a, b)) {
                return b;
            }
        }
        return -1;
    }

    int parent(int a, int i) {
        List<Integer> parents = new ArrayList<>();
        for (int b = 0; fits('c', a) && empty(a) == 0 && b < classes; b++) {
            boolean fit = sub(a, b) == 1 && !areSame(a, b) && same(b) == b;
            for (int c = 0; c < classes; c++) {
                boolean other = !areSame(c, a) && !areSame(c, b);
                fit &= !(other && sub(a, c) == 1 && sub(c, b) == 1);
            }
            if (fit) {
                parents.add(b);
            }
        }
        return i < 0 || i >= parents.size() ? -1 : parents.get(i);
    }

    private Reason byCode(int code) {
        for (Map.Entry<Fact, Reason> e : all().entrySet()) {
            if (e.getKey().code() == code) {
                return e.getValue();
            }
        }
        return null;
    }

    private List<Integer> sorted(List<Fact> some) {
        some.sort(Comparator.comparingInt((Fact f) -> all().get(f).round).thenComparingInt(Fact::code));
        List<Integer> codes = new ArrayList<>();
        for (Fact f : some) {
            codes.add(f.code());
        }
        return codes;
    }

    private Map<Fact, Reason> all() {
        if (facts == null) {
            facts = new HashMap<>();
            Map<Fact, Reason> fresh = roundZero();
            for (int round = 1; !fresh.isEmpty(); round++) {
                facts.putAll(fresh);
                fresh = nextRound(round);
            }
        }
        return facts;
    }

    private Map<Fact, Reason> roundZero() {
        Map<Fact, Reason> first = new HashMap<>();
        Reason none = new Reason(0, -1, -1, -1);
        for (int a = 0; a < classes; a++) {
            first.put(new Fact(a, -1, a), none);
            first.put(new Fact(a, -1, 0), none);
            for (Axiom x : axioms) {
                if (x.kind == 7) {
                    first.put(new Fact(a, x.a, a), none);
                }
            }
        }
        return first;
    }

    private Map<Fact, Reason> nextRound(int round) {
        Map<Integer, List<Fact>> byFirstClass = new TreeMap<>();
        for (Fact f : facts.keySet()) {
            byFirstClass.computeIfAbsent(f.a, a -> new ArrayList<>()).add(f);
        }
        Map<Fact, Reason> fresh = new HashMap<>();
        for (Fact p : facts.keySet()) {
            for (int k = 0; k < axioms.size(); k++) {
                offer(fresh, byOne(axioms.get(k), p), new Reason(round, k, p.code(), -1));
            }
            for (Fact q : byFirstClass.get(p.isSub() ? p.a : p.b)) {
                for (int k = 0; k < axioms.size(); k++) {
                    offer(fresh, byTwo(axioms.get(k), p, q), new Reason(round, k, p.code(), q.code()));
                }
                if (!p.isSub() && q.equals(new Fact(p.b, -1, 1))) {
                    offer(fresh, new Fact(p.a, -1, 1), new Reason(round, 100, p.code(), q.code()));
                }
            }
        }
        return fresh;
    }

    private void offer(Map<Fact, Reason> fresh, Fact f, Reason reason) {
        if (f != null && !facts.containsKey(f)) {
            fresh.merge(f, reason, (x, y) -> Reason.LEAST.compare(x, y) <= 0 ? x : y);
        }
    }

    private static Fact byOne(Axiom x, Fact p) {
        if (x.kind == 1 && p.isSub() && p.b == x.a) {
            return new Fact(p.a, -1, x.b);
        }
        if (x.kind == 3 && p.isSub() && p.b == x.a) {
            return new Fact(p.a, x.b, x.c);
        }
        if (x.kind == 5 && p.role == x.a) {
            return new Fact(p.a, x.b, p.b);
        }
        return null;
    }

    private static Fact byTwo(Axiom x, Fact p, Fact q) {
        if (x.kind == 2 && p.isSub() && q.isSub() && p.a == q.a && p.b == x.a && q.b == x.b) {
            return new Fact(p.a, -1, x.c);
        }
        if (x.kind == 4 && p.role == x.a && q.isSub() && q.a == p.b && q.b == x.b) {
            return new Fact(p.a, -1, x.c);
        }
        if (x.kind == 6 && p.role == x.a && q.role == x.b && q.a == p.b) {
            return new Fact(p.a, x.c, q.b);
        }
        return null;
    }
}
