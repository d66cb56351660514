import java.util.ArrayList;
import java.util.Arrays;
import java.util.List;

/**
 * The document's words, one after the other, without any thought for speed: what
 * CongruenceRows answers is held against it.
 */
final class Reference {
    private static final int NONE = -1;

    private record Term(int sign, List<Integer> places) {
    }

    private record Fact(int a, int b, boolean same) {
    }

    private final boolean[] builders = new boolean[16];
    private final List<Term> terms = new ArrayList<>();
    private final List<Fact> facts = new ArrayList<>();

    void builder(int sign) {
        if (sign < 0 || sign > 15) {
            throw new IndexOutOfBoundsException("no such sign");
        }
        if (placesOf(sign) != NONE) {
            throw new IllegalStateException("used");
        }
        builders[sign] = true;
    }

    int term(int sign, int a, int b, int c) {
        if (sign < 0 || sign > 15) {
            throw new IndexOutOfBoundsException("no such sign");
        }
        List<Integer> places = new ArrayList<>();
        for (int place : new int[] {a, b, c}) {
            if (place == NONE) {
                break;
            }
            must(place);
            places.add(place);
        }
        if (placesOf(sign) != NONE && placesOf(sign) != places.size()) {
            throw new IllegalArgumentException("more or fewer places");
        }
        Term made = new Term(sign, places);
        if (!terms.contains(made)) {
            if (terms.size() == 60) {
                throw new IllegalStateException("the 61st");
            }
            terms.add(made);
        }
        return terms.indexOf(made);
    }

    int part(int t, int what) {
        if (!isThere(t)) {
            return NONE;
        }
        Term term = terms.get(t);
        if (what == 0) {
            return term.sign();
        }
        if (what >= 1 && what <= 3) {
            return what <= term.places().size() ? term.places().get(what - 1) : NONE;
        }
        if (what != 4) {
            return NONE;
        }
        boolean[] inside = new boolean[terms.size()];
        markInside(t, inside);
        return count(inside);
    }

    int fact(int a, int b, boolean same) {
        must(a);
        must(b);
        if (facts.size() == 40) {
            throw new IllegalStateException("there are 40");
        }
        facts.add(new Fact(a, b, same));
        return facts.size() - 1;
    }

    boolean undo() {
        if (facts.isEmpty()) {
            return false;
        }
        facts.remove(facts.size() - 1);
        return true;
    }

    boolean isOne(int a, int b) {
        must(a);
        must(b);
        int[] rows = rowsOf(facts);
        return rows[a] == rows[b];
    }

    boolean clashes() {
        return isClash(facts);
    }

    boolean isOther(int a, int b) {
        must(a);
        must(b);
        List<Fact> more = new ArrayList<>(facts);
        more.add(new Fact(a, b, true));
        return isClash(more);
    }

    int row(int t, int what) {
        must(t);
        int[] rows = rowsOf(facts);
        int least = NONE;
        int many = 0;
        int built = NONE;
        int different = 0;
        for (int u = 0; u < terms.size(); u++) {
            boolean isFirst = true;
            for (int v = 0; v < u; v++) {
                isFirst &= rows[v] != rows[u];
            }
            different += isFirst ? 1 : 0;
            if (rows[u] == rows[t]) {
                many++;
                least = least == NONE ? u : least;
                built = built == NONE && builders[terms.get(u).sign()] ? u : built;
            }
        }
        return switch (what) {
            case 0 -> least;
            case 1 -> many;
            case 2 -> built;
            case 3 -> different;
            default -> NONE;
        };
    }

    long reason(int a, int b) {
        must(a);
        must(b);
        return shrink(a, b);
    }

    long clash() {
        return shrink(NONE, NONE);
    }

    long idle() {
        long found = 0;
        for (int f = 0; f < facts.size(); f++) {
            int[] ahead = rowsOf(facts.subList(0, f));
            Fact fact = facts.get(f);
            if (fact.same() && ahead[fact.a()] == ahead[fact.b()]) {
                found |= 1L << f;
            }
        }
        return found;
    }

    int about(int what) {
        if (what == 0) {
            return terms.size();
        }
        if (what == 1) {
            return facts.size();
        }
        if (what != 2) {
            return NONE;
        }
        int used = 0;
        for (int sign = 0; sign < 16; sign++) {
            used += placesOf(sign) != NONE ? 1 : 0;
        }
        return used;
    }

    private boolean isThere(int t) {
        return t >= 0 && t < terms.size();
    }

    private void must(int t) {
        if (!isThere(t)) {
            throw new IndexOutOfBoundsException("no such term");
        }
    }

    private int placesOf(int sign) {
        for (Term term : terms) {
            if (term.sign() == sign) {
                return term.places().size();
            }
        }
        return NONE;
    }

    private void markInside(int t, boolean[] inside) {
        if (inside[t]) {
            return;
        }
        inside[t] = true;
        for (int place : terms.get(t).places()) {
            markInside(place, inside);
        }
    }

    private static int count(boolean[] marks) {
        int found = 0;
        for (boolean mark : marks) {
            found += mark ? 1 : 0;
        }
        return found;
    }

    /** The facts from the last to the first, each left out if the rest still does. */
    private long shrink(int a, int b) {
        boolean[] in = new boolean[facts.size()];
        Arrays.fill(in, true);
        if (!does(in, a, b)) {
            return NONE;
        }
        long kept = 0;
        for (int f = facts.size() - 1; f >= 0; f--) {
            in[f] = false;
            if (!does(in, a, b)) {
                in[f] = true;
                kept |= 1L << f;
            }
        }
        return kept;
    }

    private boolean does(boolean[] in, int a, int b) {
        List<Fact> set = new ArrayList<>();
        for (int f = 0; f < in.length; f++) {
            if (in[f]) {
                set.add(facts.get(f));
            }
        }
        if (a == NONE) {
            return isClash(set);
        }
        int[] rows = rowsOf(set);
        return rows[a] == rows[b];
    }

    /** A row's number for each term: again and again through all pairs until no rule adds anything. */
    private int[] rowsOf(List<Fact> set) {
        int[] rows = new int[terms.size()];
        for (int t = 0; t < rows.length; t++) {
            rows[t] = t;
        }
        for (Fact fact : set) {
            if (fact.same()) {
                unite(rows, fact.a(), fact.b());
            }
        }
        boolean changed = true;
        while (changed) {
            changed = false;
            for (int t = 0; t < rows.length; t++) {
                for (int u = 0; u < t; u++) {
                    changed |= follow(rows, t, u);
                }
            }
        }
        return rows;
    }

    private boolean follow(int[] rows, int t, int u) {
        Term one = terms.get(t);
        Term two = terms.get(u);
        if (one.sign() != two.sign()) {
            return false;
        }
        boolean alike = true;
        for (int p = 0; p < one.places().size(); p++) {
            alike &= rows[one.places().get(p)] == rows[two.places().get(p)];
        }
        boolean changed = alike && unite(rows, t, u);
        if (rows[t] == rows[u] && builders[one.sign()]) {
            for (int p = 0; p < one.places().size(); p++) {
                changed |= unite(rows, one.places().get(p), two.places().get(p));
            }
        }
        return changed;
    }

    private static boolean unite(int[] rows, int a, int b) {
        int gone = rows[a];
        int kept = rows[b];
        if (gone == kept) {
            return false;
        }
        for (int t = 0; t < rows.length; t++) {
            if (rows[t] == gone) {
                rows[t] = kept;
            }
        }
        return true;
    }

    private boolean isClash(List<Fact> set) {
        int[] rows = rowsOf(set);
        for (Fact fact : set) {
            if (!fact.same() && rows[fact.a()] == rows[fact.b()]) {
                return true;
            }
        }
        for (int t = 0; t < rows.length; t++) {
            for (int u = 0; u < t; u++) {
                int one = terms.get(t).sign();
                int two = terms.get(u).sign();
                if (rows[t] == rows[u] && builders[one] && builders[two] && one != two) {
                    return true;
                }
            }
        }
        return isBelowItself(rows);
    }

    private boolean isBelowItself(int[] rows) {
        int n = rows.length;
        boolean[][] below = new boolean[n][n];
        for (int s = 0; s < n; s++) {
            if (!builders[terms.get(s).sign()]) {
                continue;
            }
            for (int place : terms.get(s).places()) {
                for (int t = 0; t < n; t++) {
                    for (int u = 0; u < n; u++) {
                        below[t][u] |= rows[t] == rows[s] && rows[u] == rows[place];
                    }
                }
            }
        }
        for (int mid = 0; mid < n; mid++) {
            for (int t = 0; t < n; t++) {
                for (int u = 0; u < n && below[t][mid]; u++) {
                    below[t][u] |= below[mid][u];
                }
            }
        }
        for (int t = 0; t < n; t++) {
            if (below[t][t]) {
                return true;
            }
        }
        return false;
    }
}
