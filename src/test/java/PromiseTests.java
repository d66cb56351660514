/** Each promise of the document by itself: ordinary inputs, the edges that it names, wrong inputs. */
public final class PromiseTests {
    private static final int NONE = Make.NONE;
    private static final String BOUNDS = Make.BOUNDS;
    private static final String STATE = Make.STATE;
    private static final String ARGUMENT = Make.ARGUMENT;
    private static final int[] NO_TERMS = {-2, -1, 60, 64, Integer.MIN_VALUE, Integer.MAX_VALUE};

    private final Check check = new Check();

    public static void main(String[] args) {
        PromiseTests tests = new PromiseTests();
        tests.newObject();
        tests.builder();
        tests.term();
        tests.termOrderOfExceptions();
        tests.termSixtyFirst();
        tests.part();
        tests.fact();
        tests.undo();
        tests.isOneByPlaces();
        tests.isOneByBuilders();
        tests.isOneOfLaterTerms();
        tests.clashesByOther();
        tests.clashesByBuilders();
        tests.clashesByDepth();
        tests.isOther();
        tests.row();
        tests.reason();
        tests.reasonOfMany();
        tests.clash();
        tests.clashOfMany();
        tests.idle();
        tests.about();
        tests.fullObject();
        tests.check.end();
    }

    private void newObject() {
        CongruenceRows x = new CongruenceRows();
        for (int what = 0; what < 3; what++) {
            int asked = what;
            check.due("1: about(" + what + ")", 0, () -> x.about(asked));
        }
        check.due("1: undo", false, x::undo);
        check.due("1: clashes", false, x::clashes);
        check.due("1: clash", NONE, x::clash);
        check.due("1: idle", 0, x::idle);
        check.due("1: part", NONE, () -> x.part(0, 0));
        check.due("1: isOne", BOUNDS, () -> x.isOne(0, 0));
        check.due("1: row", BOUNDS, () -> x.row(0, 0));
        Make.plain(x, 7);
        check.due("1: no builders", NONE, () -> x.row(0, 2));
        CongruenceRows y = new CongruenceRows();
        check.due("1: objects are apart", 0, () -> y.about(0));
    }

    private void builder() {
        CongruenceRows x = new CongruenceRows();
        for (int sign : new int[] {-1, 16, -2, Integer.MIN_VALUE, Integer.MAX_VALUE}) {
            check.due("2: no sign " + sign, BOUNDS, () -> Make.builder(x, sign));
        }
        check.due("2: first sign", "nothing", () -> Make.builder(x, 0));
        check.due("2: last sign", "nothing", () -> Make.builder(x, 15));
        check.due("2: twice", "nothing", () -> Make.builder(x, 15));
        check.due("2: is not use", 0, () -> x.about(2));
        Make.plain(x, 15);
        check.due("2: is a builder", 0, () -> x.row(0, 2));
        check.due("2: used builder", STATE, () -> Make.builder(x, 15));
        Make.plain(x, 1);
        check.due("2: used", STATE, () -> Make.builder(x, 1));
        check.due("2: used stays no builder", NONE, () -> x.row(1, 2));
        check.due("2: a term that fails", BOUNDS, () -> Make.of(x, 2, 9));
        check.due("2: is no use", "nothing", () -> Make.builder(x, 2));
    }

    private void term() {
        CongruenceRows x = new CongruenceRows();
        check.due("3: first", 0, () -> Make.plain(x, 15));
        check.due("3: one place", 1, () -> Make.of(x, 1, 0));
        check.due("3: two places", 2, () -> Make.of(x, 2, 0, 1));
        check.due("3: three places", 3, () -> x.term(3, 0, 1, 2));
        check.due("3: the same of none", 0, () -> Make.plain(x, 15));
        check.due("3: the same of one", 1, () -> Make.of(x, 1, 0));
        check.due("3: the same of two", 2, () -> Make.of(x, 2, 0, 1));
        check.due("3: the same of three", 3, () -> x.term(3, 0, 1, 2));
        check.due("3: the other way round", 4, () -> Make.of(x, 2, 1, 0));
        check.due("3: third place differs", 5, () -> x.term(3, 0, 1, 1));
        check.due("3: another sign of the same", 6, () -> Make.of(x, 4, 0));
        check.due("3: behind the first NONE, none", 0, () -> x.term(15, NONE, 77, -5));
        check.due("3: behind the first NONE, one", 1, () -> x.term(1, 0, NONE, 77));
        x.fact(0, 1, true);
        check.due("3: one is not the same", 7, () -> Make.of(x, 1, 1));
        check.due("3: by sign, not by row", 1, () -> Make.of(x, 1, 0));
    }

    private void termOrderOfExceptions() {
        CongruenceRows x = new CongruenceRows();
        Make.plain(x, 0);
        Make.of(x, 1, 0);
        for (int sign : new int[] {-1, 16, Integer.MIN_VALUE, Integer.MAX_VALUE}) {
            check.due("3: no sign " + sign, BOUNDS, () -> Make.plain(x, sign));
        }
        for (int t : new int[] {-2, 2, 60, Integer.MIN_VALUE, Integer.MAX_VALUE}) {
            check.due("3: no term first " + t, BOUNDS, () -> Make.of(x, 2, t));
            check.due("3: no term second " + t, BOUNDS, () -> Make.of(x, 2, 0, t));
            check.due("3: no term third " + t, BOUNDS, () -> x.term(2, 0, 0, t));
            check.due("3: no term, wrong places " + t, BOUNDS, () -> Make.of(x, 1, 0, t));
        }
        check.due("3: more than none", ARGUMENT, () -> Make.of(x, 0, 0));
        check.due("3: fewer than one", ARGUMENT, () -> Make.plain(x, 1));
        check.due("3: more than one", ARGUMENT, () -> Make.of(x, 1, 0, 0));
        check.due("3: three for one", ARGUMENT, () -> x.term(1, 0, 0, 0));
        check.due("3: what fails makes nothing", 2, () -> x.about(0));
        check.due("3: and uses nothing", 2, () -> x.about(2));
        check.due("3: so the sign is free", 2, () -> x.term(2, 0, 0, 0));
        check.due("3: two for three", ARGUMENT, () -> Make.of(x, 2, 0, 0));
        check.due("3: one for three", ARGUMENT, () -> Make.of(x, 2, 0));
        check.due("3: another sign", 3, () -> Make.of(x, 3, 0, 0));
        check.due("3: three for two", ARGUMENT, () -> x.term(3, 0, 0, 0));
        check.due("3: one for two", ARGUMENT, () -> Make.of(x, 3, 0));
    }

    private void termSixtyFirst() {
        CongruenceRows x = new CongruenceRows();
        Make.plain(x, 0);
        for (int t = 1; t < 60; t++) {
            int want = t;
            check.due("3: a chain, " + t, want, () -> Make.of(x, 1, want - 1));
        }
        check.due("3: the 61st", STATE, () -> Make.of(x, 1, 59));
        check.due("3: the 61st of a new sign", STATE, () -> Make.plain(x, 2));
        check.due("3: that was no use", 2, () -> x.about(2));
        check.due("3: one that is there", 59, () -> Make.of(x, 1, 58));
        check.due("3: wrong places come first", ARGUMENT, () -> Make.of(x, 1, 59, 59));
        check.due("3: no term comes first", BOUNDS, () -> Make.of(x, 1, 60));
        check.due("3: still 60", 60, () -> x.about(0));
        check.due("4: sixty stand in the last", 60, () -> x.part(59, 4));
    }

    private void part() {
        CongruenceRows x = new CongruenceRows();
        Make.plain(x, 5);
        Make.of(x, 6, 0);
        Make.of(x, 7, 1, 0);
        x.term(8, 2, 1, 2);
        int[][] want = {{5, -1, -1, -1, 1}, {6, 0, -1, -1, 2}, {7, 1, 0, -1, 3}, {8, 2, 1, 2, 4}};
        for (int t = 0; t < 4; t++) {
            for (int what = 0; what < 5; what++) {
                int term = t;
                int asked = what;
                check.due("4: part(" + t + ", " + what + ")", want[t][what], () -> x.part(term, asked));
            }
        }
        for (int what : new int[] {-1, 5, Integer.MIN_VALUE, Integer.MAX_VALUE}) {
            check.due("4: another what " + what, NONE, () -> x.part(0, what));
        }
        check.due("4: no term yet", NONE, () -> x.part(4, 0));
        for (int t : NO_TERMS) {
            check.due("4: no term " + t, NONE, () -> x.part(t, 4));
        }
        x.fact(0, 3, true);
        check.due("4: facts change nothing in it", 1, () -> x.part(0, 4));
        CongruenceRows y = Make.sixPlain();
        int f = Make.of(y, 6, 5);
        int g = y.term(7, 0, 1, f);
        int h = y.term(7, 0, f, 2);
        check.due("4: each place counts", 5, () -> y.part(g, 4));
        check.due("4: the second place too", 5, () -> y.part(h, 4));
    }

    private void fact() {
        CongruenceRows x = Make.sixPlain();
        check.due("5: first", 0, () -> x.fact(0, 1, true));
        check.due("5: OTHER", 1, () -> x.fact(2, 3, false));
        check.due("5: again counts again", 2, () -> x.fact(0, 1, true));
        for (int t : NO_TERMS) {
            check.due("5: no term " + t, BOUNDS, () -> x.fact(t, 0, true));
            check.due("5: no term behind " + t, BOUNDS, () -> x.fact(0, t, false));
        }
        check.due("5: no term yet", BOUNDS, () -> x.fact(0, 6, true));
        check.due("5: what fails is no fact", 3, () -> x.about(1));
        check.due("5: SAME", true, () -> x.isOne(0, 1));
        check.due("5: OTHER makes nothing one", false, () -> x.isOne(2, 3));
        for (int f = 3; f < 40; f++) {
            int want = f;
            check.due("5: number " + f, want, () -> x.fact(4, 4, true));
        }
        check.due("5: there are 40", STATE, () -> x.fact(4, 5, true));
        check.due("5: and an OTHER", STATE, () -> x.fact(4, 5, false));
        check.due("5: no term comes first", BOUNDS, () -> x.fact(4, 6, true));
        check.due("5: nothing came of it", false, () -> x.isOne(4, 5));
        x.undo();
        check.due("5: again 40", 39, () -> x.fact(4, 5, true));
        check.due("5: the 40th counts", true, () -> x.isOne(4, 5));
    }

    private void undo() {
        CongruenceRows x = Make.sixPlain();
        check.due("6: none", false, x::undo);
        x.fact(0, 1, true);
        x.fact(1, 2, true);
        x.fact(2, 0, false);
        check.due("6: clashes before", true, x::clashes);
        check.due("6: the latest", true, x::undo);
        check.due("6: two are left", 2, () -> x.about(1));
        check.due("6: clashes no more", false, x::clashes);
        check.due("6: the others stay", true, () -> x.isOne(0, 2));
        check.due("6: and the next", true, x::undo);
        check.due("6: not one any more", false, () -> x.isOne(0, 2));
        check.due("6: still one", true, () -> x.isOne(0, 1));
        check.due("6: its number is free", 1, () -> x.fact(4, 5, true));
        check.due("6: reason of the new one", 2, () -> x.reason(5, 4));
        x.undo();
        check.due("6: the last", true, x::undo);
        check.due("6: none left", false, x::undo);
        check.due("6: none at all", 0, () -> x.about(1));
        check.due("6: terms stay", 6, () -> x.about(0));
    }

    private void isOneByPlaces() {
        CongruenceRows x = Make.sixPlain();
        int fa = Make.of(x, 6, 0);
        int fb = Make.of(x, 6, 1);
        int g = Make.of(x, 7, 0, 2);
        int h = Make.of(x, 7, 1, 3);
        int k = x.term(8, fa, 4, g);
        int l = x.term(8, fb, 4, h);
        check.due("7: itself", true, () -> x.isOne(0, 0));
        check.due("7: nothing yet", false, () -> x.isOne(fa, fb));
        x.fact(4, 0, true);
        x.fact(4, 1, true);
        check.due("7: by a third", true, () -> x.isOne(0, 1));
        check.due("7: the other way round", true, () -> x.isOne(1, 0));
        check.due("7: place by place", true, () -> x.isOne(fa, fb));
        check.due("7: one place of two", false, () -> x.isOne(g, h));
        check.due("7: a third place short", false, () -> x.isOne(k, l));
        x.fact(2, 3, true);
        check.due("7: both places", true, () -> x.isOne(g, h));
        check.due("7: three places, upward", true, () -> x.isOne(k, l));
        check.due("7: signs matter", false, () -> x.isOne(fa, g));
        for (int t : NO_TERMS) {
            check.due("7: no term " + t, BOUNDS, () -> x.isOne(t, 0));
            check.due("7: no term behind " + t, BOUNDS, () -> x.isOne(0, t));
        }
        CongruenceRows y = Make.sixPlain();
        int p = Make.of(y, 6, 0);
        int q = Make.of(y, 6, 1);
        y.fact(p, q, true);
        check.due("7: not downward without builders", false, () -> y.isOne(0, 1));
    }

    private void isOneByBuilders() {
        CongruenceRows x = new CongruenceRows();
        x.builder(6);
        x.builder(7);
        for (int sign = 0; sign < 6; sign++) {
            Make.plain(x, sign);
        }
        int p = x.term(6, 0, 1, 2);
        int q = x.term(6, 3, 4, 5);
        int r = Make.of(x, 7, p);
        int s = Make.of(x, 7, q);
        int u = Make.of(x, 8, 0);
        int v = Make.of(x, 8, 3);
        check.due("7: nothing by itself", false, () -> x.isOne(p, q));
        x.fact(r, 5, true);
        x.fact(5, s, true);
        check.due("7: builder's place", true, () -> x.isOne(p, q));
        check.due("7: first place", true, () -> x.isOne(0, 3));
        check.due("7: second place", true, () -> x.isOne(1, 4));
        check.due("7: third place", true, () -> x.isOne(2, 5));
        check.due("7: down and up again", true, () -> x.isOne(u, v));
        check.due("7: not all", false, () -> x.isOne(0, 1));

        CongruenceRows y = new CongruenceRows();
        y.builder(1);
        y.builder(2);
        Make.plain(y, 0);
        Make.plain(y, 3);
        int a = Make.of(y, 1, 0);
        int b = Make.of(y, 2, 0);
        int c = Make.of(y, 2, 1);
        y.fact(a, b, true);
        check.due("7: two builders in a row", true, y::clashes);
        y.fact(a, c, true);
        check.due("7: builders' places in a clash too", true, () -> y.isOne(0, 1));
        check.due("7: places of two builders are not", false, () -> y.isOne(a, 0));
    }

    private void isOneOfLaterTerms() {
        CongruenceRows x = Make.sixPlain();
        x.fact(0, 1, true);
        check.due("7: rows before", 5, () -> x.row(0, 3));
        int fa = Make.of(x, 6, 0);
        int fb = Make.of(x, 6, 1);
        check.due("7: terms after the fact", true, () -> x.isOne(fa, fb));
        check.due("7: reason of later terms", 1, () -> x.reason(fb, fa));
        CongruenceRows y = new CongruenceRows();
        Make.plain(y, 0);
        for (int t = 1; t < 13; t++) {
            Make.of(y, 1, t - 1);
        }
        y.fact(12, 0, true);
        y.fact(8, 0, true);
        check.due("7: of 12 and 8 follows 4", true, () -> y.isOne(4, 0));
        check.due("7: but not 2", false, () -> y.isOne(2, 0));
    }

    private void clashesByOther() {
        CongruenceRows x = Make.sixPlain();
        int fa = Make.of(x, 6, 0);
        int fb = Make.of(x, 6, 1);
        x.fact(fa, fb, false);
        check.due("8: OTHER alone", false, x::clashes);
        x.fact(0, 1, true);
        check.due("8: OTHER of terms that follow", true, x::clashes);
        CongruenceRows y = Make.sixPlain();
        y.fact(3, 3, false);
        check.due("8: OTHER with itself", true, y::clashes);
        CongruenceRows z = Make.sixPlain();
        z.fact(0, 1, false);
        z.fact(1, 2, false);
        z.fact(0, 2, true);
        check.due("8: OTHERs do not pass on", false, z::clashes);
    }

    private void clashesByBuilders() {
        CongruenceRows x = new CongruenceRows();
        x.builder(0);
        x.builder(1);
        for (int sign = 0; sign < 4; sign++) {
            Make.plain(x, sign);
        }
        x.fact(2, 3, true);
        check.due("8: no builders", false, x::clashes);
        x.fact(0, 2, true);
        check.due("8: one builder", false, x::clashes);
        x.fact(3, 1, true);
        check.due("8: two builders", true, x::clashes);
        CongruenceRows y = new CongruenceRows();
        y.builder(1);
        Make.plain(y, 0);
        Make.plain(y, 2);
        int a = Make.of(y, 1, 0);
        int b = Make.of(y, 1, 1);
        y.fact(a, b, true);
        check.due("8: the same builder", false, y::clashes);
    }

    private void clashesByDepth() {
        CongruenceRows x = new CongruenceRows();
        x.builder(1);
        x.builder(2);
        Make.plain(x, 0);
        int s = Make.of(x, 1, 0);
        int p = Make.of(x, 2, s, s);
        int q = Make.of(x, 1, p);
        int n = Make.of(x, 3, q);
        int m = Make.of(x, 1, n);
        x.fact(0, q, true);
        check.due("8: three builders deep", true, x::clashes);
        x.undo();
        x.fact(0, s, true);
        check.due("8: right below", true, x::clashes);
        x.undo();
        x.fact(0, m, true);
        check.due("8: not below builders alone", false, x::clashes);
        x.fact(n, s, true);
        check.due("8: through what is one", true, x::clashes);
        x.undo();
        x.undo();
        x.fact(n, q, true);
        check.due("8: a sign that is no builder", false, x::clashes);

        CongruenceRows y = new CongruenceRows();
        y.builder(2);
        Make.plain(y, 0);
        Make.plain(y, 1);
        Make.plain(y, 3);
        int left = y.term(2, 2, 2, 0);
        int right = y.term(2, 2, 2, 1);
        y.fact(left, 1, true);
        check.due("8: half of a ring", false, y::clashes);
        y.fact(right, 0, true);
        check.due("8: a ring of two, third places", true, y::clashes);
        y.undo();
        int middle = y.term(2, 2, left, 2);
        y.fact(middle, 0, true);
        check.due("8: a ring by way of a second place", true, y::clashes);
    }

    private void isOther() {
        CongruenceRows x = new CongruenceRows();
        x.builder(1);
        x.builder(2);
        Make.plain(x, 0);
        Make.plain(x, 3);
        int s = Make.of(x, 1, 0);
        int r = Make.of(x, 1, 1);
        int p = Make.of(x, 2, 0);
        check.due("9: nothing against it", false, () -> x.isOther(0, 1));
        check.due("9: itself", false, () -> x.isOther(s, s));
        check.due("9: two builders", true, () -> x.isOther(s, p));
        check.due("9: below", true, () -> x.isOther(0, s));
        check.due("9: nothing stays of it", false, x::clashes);
        check.due("9: no fact stays", 0, () -> x.about(1));
        x.fact(0, 1, false);
        check.due("9: an OTHER", true, () -> x.isOther(1, 0));
        check.due("9: an OTHER that follows", true, () -> x.isOther(s, r));
        check.due("9: not that", false, () -> x.isOther(1, s));
        for (int t : NO_TERMS) {
            check.due("9: no term " + t, BOUNDS, () -> x.isOther(t, 0));
            check.due("9: no term behind " + t, BOUNDS, () -> x.isOther(0, t));
        }
        x.fact(s, p, true);
        check.due("9: all clash already", true, () -> x.isOther(0, 0));
        while (x.about(1) < 40) {
            x.fact(0, 0, true);
        }
        check.due("9: with 40 facts too", true, () -> x.isOther(0, 0));
        x.undo();
        check.due("9: the facts stay", 39, () -> x.about(1));
    }

    private void row() {
        CongruenceRows x = new CongruenceRows();
        x.builder(2);
        x.builder(5);
        for (int sign = 0; sign < 7; sign++) {
            Make.plain(x, sign);
        }
        x.fact(6, 4, true);
        x.fact(5, 6, true);
        x.fact(3, 1, true);
        int[][] want = {{0, 1, -1, 4}, {1, 2, -1, 4}, {2, 1, 2, 4}, {1, 2, -1, 4},
            {4, 3, 5, 4}, {4, 3, 5, 4}, {4, 3, 5, 4}};
        for (int t = 0; t < 7; t++) {
            for (int what = 0; what < 4; what++) {
                int term = t;
                int asked = what;
                check.due("10: row(" + t + ", " + what + ")", want[t][what], () -> x.row(term, asked));
            }
        }
        for (int what : new int[] {-1, 4, Integer.MIN_VALUE, Integer.MAX_VALUE}) {
            check.due("10: another what " + what, NONE, () -> x.row(0, what));
            check.due("10: no term comes first " + what, BOUNDS, () -> x.row(7, what));
        }
        for (int t : NO_TERMS) {
            check.due("10: no term " + t, BOUNDS, () -> x.row(t, 3));
        }
        x.fact(2, 6, true);
        check.due("10: least of two builders", 2, () -> x.row(5, 2));
        check.due("10: rows are three", 3, () -> x.row(0, 3));
    }

    private void reason() {
        CongruenceRows x = Make.sixPlain();
        check.due("11: not one", NONE, () -> x.reason(0, 1));
        check.due("11: itself, without facts", 0, () -> x.reason(0, 0));
        x.fact(0, 2, true);
        x.fact(3, 4, true);
        x.fact(2, 1, true);
        x.fact(0, 1, true);
        check.due("11: the last is left out first", 5, () -> x.reason(0, 1));
        check.due("11: only what is needed", 4, () -> x.reason(1, 2));
        check.due("11: other facts", 2, () -> x.reason(4, 3));
        check.due("11: itself", 0, () -> x.reason(4, 4));
        check.due("11: still not one", NONE, () -> x.reason(0, 5));
        x.fact(0, 1, false);
        check.due("11: an OTHER is no reason", 5, () -> x.reason(1, 0));
        x.fact(5, 4, false);
        check.due("11: a clash makes nothing one", NONE, () -> x.reason(4, 5));
        for (int t : NO_TERMS) {
            check.due("11: no term " + t, BOUNDS, () -> x.reason(t, 0));
            check.due("11: no term behind " + t, BOUNDS, () -> x.reason(0, t));
        }
        CongruenceRows y = Make.sixPlain();
        y.fact(0, 1, true);
        y.fact(0, 2, true);
        y.fact(2, 1, true);
        check.due("11: the first is enough", 1, () -> y.reason(0, 1));
        CongruenceRows z = Make.sixPlain();
        z.fact(0, 3, true);
        z.fact(0, 2, true);
        z.fact(3, 1, true);
        z.fact(2, 1, true);
        check.due("11: by way of facts ahead", 5, () -> z.reason(0, 1));
    }

    /** A chain of 41 terms needs each of 40 facts, the highest bits with them. */
    private void reasonOfMany() {
        CongruenceRows x = Make.sixtyApart();
        for (int f = 0; f < 40; f++) {
            x.fact(1, 1, true);
        }
        check.due("11: forty that are of no use", 0, () -> x.reason(1, 1));
        check.due("13: forty idle", (1L << 40) - 1, x::idle);
        for (int f = 0; f < 40; f++) {
            x.undo();
        }
        for (int f = 0; f < 40; f++) {
            x.fact(f + 11, f + 10, true);
        }
        check.due("11: forty facts", (1L << 40) - 1, () -> x.reason(10, 50));
        check.due("11: the 40th", 1L << 39, () -> x.reason(49, 50));
        check.due("13: none idle", 0, x::idle);
    }

    private void clash() {
        CongruenceRows x = new CongruenceRows();
        x.builder(1);
        x.builder(2);
        Make.plain(x, 0);
        Make.plain(x, 3);
        int s = Make.of(x, 1, 0);
        int p = Make.of(x, 2, 0);
        check.due("12: without one", NONE, x::clash);
        x.fact(1, s, true);
        x.fact(0, 1, false);
        x.fact(0, 0, true);
        check.due("12: still without", NONE, x::clash);
        x.fact(p, 1, true);
        check.due("12: two builders", 9, x::clash);
        x.fact(0, 1, true);
        check.due("12: the earlier clash", 9, x::clash);
        x.undo();
        x.undo();
        x.fact(0, 1, true);
        check.due("12: below, so the OTHER is left out", 9, x::clash);
        x.undo();
        x.undo();
        x.undo();
        x.fact(0, 1, true);
        check.due("12: below", 3, x::clash);
        x.fact(1, 1, false);
        check.due("12: the later one is left out", 3, x::clash);
        CongruenceRows y = Make.sixPlain();
        y.fact(2, 2, false);
        y.fact(0, 1, true);
        y.fact(0, 1, false);
        check.due("12: an OTHER alone", 1, y::clash);
    }

    private void clashOfMany() {
        CongruenceRows x = Make.sixtyApart();
        x.fact(59, 20, false);
        for (int f = 0; f < 39; f++) {
            check.due("12: not yet", NONE, x::clash);
            x.fact(f + 21, f + 20, true);
        }
        check.due("12: forty facts", (1L << 40) - 1, x::clash);
    }

    private void idle() {
        CongruenceRows x = Make.sixPlain();
        int fa = Make.of(x, 6, 0);
        int fb = Make.of(x, 6, 2);
        check.due("13: no facts", 0, x::idle);
        x.fact(0, 1, true);
        x.fact(1, 2, true);
        x.fact(2, 0, true);
        x.fact(0, 2, false);
        x.fact(fa, fb, true);
        x.fact(3, 4, true);
        x.fact(5, 5, true);
        x.fact(5, 5, false);
        check.due("13: by a third, by places, itself", 4 + 16 + 64, x::idle);
        CongruenceRows y = Make.sixPlain();
        int ga = Make.of(y, 6, 0);
        int gb = Make.of(y, 6, 1);
        y.fact(ga, gb, true);
        y.fact(0, 1, true);
        check.due("13: only by facts ahead", 0, y::idle);
        CongruenceRows z = new CongruenceRows();
        z.builder(2);
        Make.plain(z, 0);
        Make.plain(z, 1);
        z.fact(Make.of(z, 2, 0), Make.of(z, 2, 1), true);
        z.fact(1, 0, true);
        check.due("13: by builders", 2, z::idle);
    }

    private void about() {
        CongruenceRows x = Make.sixPlain();
        Make.of(x, 9, 0);
        Make.of(x, 9, 1);
        Make.of(x, 9, 1);
        x.fact(0, 1, true);
        x.fact(0, 1, false);
        check.due("14: terms", 8, () -> x.about(0));
        check.due("14: facts", 2, () -> x.about(1));
        check.due("14: signs", 7, () -> x.about(2));
        for (int what : new int[] {-1, 3, Integer.MIN_VALUE, Integer.MAX_VALUE}) {
            check.due("14: another what " + what, NONE, () -> x.about(what));
        }
        x.undo();
        check.due("14: facts after undo", 1, () -> x.about(1));
        for (int sign = 6; sign < 16; sign++) {
            if (sign != 9) {
                Make.plain(x, sign);
            }
        }
        check.due("14: all signs", 16, () -> x.about(2));
    }

    /** As many terms and facts as can be, a builder's chain that all falls into one row. */
    private void fullObject() {
        CongruenceRows x = new CongruenceRows();
        x.builder(1);
        Make.plain(x, 0);
        Make.plain(x, 2);
        for (int t = 2; t < 60; t++) {
            Make.of(x, 1, t - 2);
        }
        x.fact(58, 59, true);
        check.due("7: down the whole chain", true, () -> x.isOne(0, 1));
        check.due("10: pairs", 30, () -> x.row(0, 3));
        check.due("8: no clash", false, x::clashes);
        check.due("9: each is other than the next", true, () -> x.isOther(2, 0));
        for (int f = 1; f < 40; f++) {
            x.fact(f, 59 - f, true);
        }
        check.due("8: full", true, x::clashes);
        check.due("10: all in one row", 60, () -> x.row(30, 1));
    }
}
