import java.util.ArrayList;
import java.util.Arrays;
import java.util.HashMap;
import java.util.HashSet;
import java.util.List;
import java.util.Map;
import java.util.Set;

/** Section 1 of the document once more, in its plainest form, for ModelTest. */
final class PlainTerms {
    static final int NUMBER = 0;
    static final int ROW = 1;
    static final int SECRET = 2;
    static final int PAIR = 3;
    static final int HASH = 4;
    static final int KEYED = 5;
    static final int PUBLIC = 6;
    static final int SIGNED = 7;
    static final int CLOSED = 8;
    static final int DERIVED = 9;

    static final class Term {
        final int kind;
        final int word;
        final List<Term> parts;

        private Term(int kind, int word, List<Term> parts) {
            this.kind = kind;
            this.word = word;
            this.parts = parts;
        }
    }

    private final Map<List<Object>, Term> all = new HashMap<>();
    private int secrets;
    /** The OUTSIDE's TABLE. */
    final List<Term> outside = new ArrayList<>();
    /** What went out, or was written whole. */
    final Set<Term> gone = new HashSet<>();
    final Term deviceKey = secret();
    final Term quoteKey = of(DERIVED, deviceKey, number(1));

    private Term term(Object said, int kind, int word, List<Term> parts) {
        List<Object> key = new ArrayList<>(parts);
        key.add(kind);
        key.add(said);
        return all.computeIfAbsent(key, k -> new Term(kind, word, parts));
    }

    Term number(int w) {
        return term(w, NUMBER, w, List.of());
    }

    Term row(List<Integer> words) {
        return term(List.copyOf(words), ROW, 0, List.of());
    }

    Term secret() {
        secrets++;
        return term(secrets, SECRET, 0, List.of());
    }

    Term of(int kind, Term... parts) {
        return term("", kind, 0, Arrays.asList(parts));
    }

    /** How many TERMS a kind is made of. */
    static int needs(int kind) {
        return switch (kind) {
            case PAIR, KEYED, SIGNED, DERIVED -> 2;
            case HASH, PUBLIC -> 1;
            case CLOSED -> 3;
            default -> 0;
        };
    }

    /** The least ROUND of each TERM that is KNOWN. */
    Map<Term, Integer> rounds() {
        Map<Term, Integer> known = new HashMap<>();
        Term quotePublic = of(PUBLIC, quoteKey);
        for (Term t : all.values()) {
            if (t.kind == NUMBER || t.kind == ROW || t == quotePublic || outside.contains(t) || gone.contains(t)) {
                known.put(t, 0);
            }
        }
        for (int round = 1; true; round++) {
            Set<Term> next = new HashSet<>();
            for (Term t : known.keySet()) {
                next.addAll(takenApart(t, known.keySet()));
            }
            for (Term t : all.values()) {
                if (!t.parts.isEmpty() && known.keySet().containsAll(t.parts)) {
                    next.add(t);
                }
            }
            next.removeAll(known.keySet());
            if (next.isEmpty()) {
                return known;
            }
            for (Term t : next) {
                known.put(t, round);
            }
        }
    }

    private static List<Term> takenApart(Term t, Set<Term> had) {
        if (t.kind == PAIR) {
            return t.parts;
        }
        if (t.kind == SIGNED) {
            return List.of(t.parts.get(1));
        }
        if (t.kind == CLOSED) {
            return had.contains(t.parts.get(0)) ? t.parts.subList(1, 3) : t.parts.subList(1, 2);
        }
        return List.of();
    }
}
