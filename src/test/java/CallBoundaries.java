/** The sentences of promises 1 to 6: what makes an object and what changes it. */
final class CallBoundaries {
    private static final int NONE = Make.NONE;
    private static final int[] NO_SIGNS = {-1, -2, -16, 16, 17, 31, 32, 64, 256, 65536,
        Integer.MIN_VALUE, Integer.MAX_VALUE};

    private final Sentences sentences;

    CallBoundaries(Sentences sentences) {
        this.sentences = sentences;
    }

    void run() {
        newWithoutSigns();
        newWithoutBuilders();
        newWithoutTerms();
        newWithoutFacts();
        builderFromNowOn();
        builderOfNoSign();
        builderOfUsedSign();
        termNumbers();
        termUpToTheFirstNone();
        termOfNoSignOrTerm();
        termOfOtherPlaces();
        termTheSixtyFirst();
        partSign();
        partPlaces();
        partHowMany();
        partOfAnotherWhat();
        partOfNoTerm();
        factNumber();
        factOfNoTerm();
        factTheFortyFirst();
        undoTheLatest();
        undoWhetherThereWasOne();
    }

    private void newWithoutSigns() {
        sentences.by("Promise 1", "No signs used,");
        sentences.due("about", 0, () -> new CongruenceRows().about(2));
        for (int sign = 0; sign < 16; sign++) {
            int asked = sign;
            sentences.due("so " + sign + " may be a builder", "nothing",
                    () -> Make.builder(new CongruenceRows(), asked));
        }
        CongruenceRows x = Make.sixPlain();
        sentences.due("whatever another object used", 0, () -> new CongruenceRows().about(2));
        sentences.due("which keeps them", 6, () -> x.about(2));
    }

    private void newWithoutBuilders() {
        sentences.by("Promise 1", "no builders,");
        CongruenceRows x = new CongruenceRows();
        for (int sign = 0; sign < 16; sign++) {
            int t = Make.plain(x, sign);
            sentences.due("sign " + sign, NONE, () -> x.row(t, 2));
        }
        for (int t = 1; t < 16; t++) {
            x.fact(0, t, true);
        }
        sentences.due("so all may be one", false, x::clashes);
        Make.builder(new CongruenceRows(), 3);
        CongruenceRows y = new CongruenceRows();
        Make.plain(y, 3);
        sentences.due("whatever another object has", NONE, () -> y.row(0, 2));
    }

    private void newWithoutTerms() {
        sentences.by("Promise 1", "no terms,");
        CongruenceRows x = new CongruenceRows();
        sentences.due("about", 0, () -> x.about(0));
        sentences.due("part", NONE, () -> x.part(0, 0));
        sentences.due("term", Make.BOUNDS, () -> Make.of(x, 0, 0));
        sentences.due("fact", Make.BOUNDS, () -> x.fact(0, 0, true));
        sentences.due("isOne", Make.BOUNDS, () -> x.isOne(0, 0));
        sentences.due("isOther", Make.BOUNDS, () -> x.isOther(0, 0));
        sentences.due("row", Make.BOUNDS, () -> x.row(0, 3));
        sentences.due("reason", Make.BOUNDS, () -> x.reason(0, 0));
        sentences.due("the first is 0", 0, () -> Make.plain(x, 9));
        sentences.due("in another object too", 0, () -> Make.plain(new CongruenceRows(), 9));
    }

    private void newWithoutFacts() {
        sentences.by("Promise 1", "no facts.");
        CongruenceRows x = new CongruenceRows();
        sentences.due("about", 0, () -> x.about(1));
        sentences.due("undo", false, x::undo);
        sentences.due("clashes", false, x::clashes);
        sentences.due("clash", NONE, x::clash);
        sentences.due("idle", 0, x::idle);
        CongruenceRows y = Make.sixPlain();
        y.fact(0, 1, true);
        sentences.due("whatever another object has", false, () -> Make.sixPlain().isOne(0, 1));
        sentences.due("which keeps them", true, () -> y.isOne(0, 1));
    }

    private void builderFromNowOn() {
        sentences.by("Promise 2", "A sign is a builder from now on.");
        CongruenceRows x = new CongruenceRows();
        Make.plain(x, 0);
        Make.plain(x, 1);
        sentences.due("between terms", "nothing", () -> Make.builder(x, 15));
        sentences.due("that is no use of it", 2, () -> x.about(2));
        sentences.due("again, before it is used", "nothing", () -> Make.builder(x, 15));
        sentences.due("and no term", 2, () -> x.about(0));
        int one = Make.of(x, 15, 0);
        int two = Make.of(x, 15, 1);
        sentences.due("its first term", one, () -> x.row(one, 2));
        sentences.due("its next term", two, () -> x.row(two, 2));
        sentences.due("not those of another sign", NONE, () -> x.row(0, 2));
        x.fact(one, two, true);
        sentences.due("places are one", true, () -> x.isOne(0, 1));
        x.undo();
        sentences.due("undo does not undo it", two, () -> x.row(two, 2));
        CongruenceRows y = new CongruenceRows();
        for (int sign = 0; sign < 16; sign++) {
            y.builder(sign);
        }
        for (int sign = 0; sign < 16; sign++) {
            int t = Make.plain(y, sign);
            sentences.due("all sixteen, " + sign, t, () -> y.row(t, 2));
        }
        sentences.due("each other than the rest", true, () -> y.isOther(0, 15));
    }

    private void builderOfNoSign() {
        sentences.by("Promise 2", "IndexOutOfBoundsException: there is none such.");
        CongruenceRows x = Make.sixPlain();
        String before = Make.state(x);
        for (int sign : NO_SIGNS) {
            sentences.due("sign " + sign, Make.BOUNDS, () -> Make.builder(x, sign));
        }
        sentences.due("nothing has changed", before, () -> Make.state(x));
        sentences.due("nor is another one", NONE, () -> x.row(Make.plain(x, 15), 2));
        sentences.due("the last there is", "nothing", () -> Make.builder(x, 14));
        sentences.due("the first there is", "nothing", () -> Make.builder(new CongruenceRows(), 0));
    }

    private void builderOfUsedSign() {
        sentences.by("Promise 2", "IllegalStateException: it has been used.");
        for (int sign = 0; sign < 16; sign++) {
            for (int places = 0; places < 4; places++) {
                CongruenceRows x = new CongruenceRows();
                Make.plain(x, (sign + 1) % 16);
                int used = sign;
                int t = Make.ofMany(x, sign, places, 0);
                String told = "sign " + sign + ", places " + places;
                sentences.due(told, Make.STATE, () -> Make.builder(x, used));
                sentences.due(told + ", stays none", NONE, () -> x.row(t, 2));
            }
        }
        CongruenceRows y = new CongruenceRows();
        y.builder(3);
        Make.plain(y, 3);
        String before = Make.state(y);
        sentences.due("a builder that was used", Make.STATE, () -> Make.builder(y, 3));
        sentences.due("it stays one", before, () -> Make.state(y));
        CongruenceRows z = Make.sixPlain();
        z.fact(0, 1, true);
        z.undo();
        sentences.due("undo does not free it", Make.STATE, () -> Make.builder(z, 0));
        sentences.due("a refused term", Make.BOUNDS, () -> Make.of(z, 6, 60));
        sentences.due("is no use", "nothing", () -> Make.builder(z, 6));
    }

    private void termNumbers() {
        sentences.by("Promise 3", "A term: its number, from 0 on;");
        CongruenceRows x = new CongruenceRows();
        sentences.due("the first", 0, () -> Make.plain(x, 15));
        sentences.due("one that is there", 0, () -> Make.plain(x, 15));
        sentences.due("the second", 1, () -> Make.of(x, 0, 0));
        sentences.due("a refused one takes no number", Make.BOUNDS, () -> Make.of(x, 0, 2));
        sentences.due("so the third has it", 2, () -> x.term(7, 1, 0, 1));
        for (int t = 3; t < 60; t++) {
            int want = t;
            sentences.due("number " + t, want, () -> Make.of(x, 0, want - 1));
        }
        for (int t = 3; t < 60; t++) {
            int want = t;
            sentences.due("again " + t, want, () -> Make.of(x, 0, want - 1));
        }
    }

    private void termUpToTheFirstNone() {
        sentences.by("Promise 3", "a, b, c count up to the first that is NONE.");
        CongruenceRows x = new CongruenceRows();
        int none = Make.plain(x, 0);
        int one = Make.of(x, 1, none);
        int two = Make.of(x, 2, none, one);
        String before = Make.state(x);
        for (int behind : new int[] {NONE, none, one, -2, 3, 60, 64, Integer.MIN_VALUE, Integer.MAX_VALUE}) {
            sentences.due("NONE first, then " + behind, none, () -> x.term(0, NONE, behind, behind));
            sentences.due("NONE first and second, then " + behind, none, () -> x.term(0, NONE, NONE, behind));
            sentences.due("NONE first and third, amid " + behind, none, () -> x.term(0, NONE, behind, NONE));
            sentences.due("NONE second, then " + behind, one, () -> x.term(1, none, NONE, behind));
        }
        sentences.due("NONE third", two, () -> x.term(2, none, one, NONE));
        sentences.due("no place more", before, () -> Make.state(x));
        sentences.due("nor in a new one", 3, () -> x.term(3, NONE, 2, 1));
        sentences.due("which has no places", NONE, () -> x.part(3, 2));
        sentences.due("no NONE", 4, () -> x.term(4, none, one, two));
    }

    private void termOfNoSignOrTerm() {
        sentences.by("Promise 3", "IndexOutOfBoundsException: no such sign, or term.");
        CongruenceRows x = Make.sixPlain();
        String before = Make.state(x);
        for (int sign : NO_SIGNS) {
            sentences.due("sign " + sign, Make.BOUNDS, () -> Make.plain(x, sign));
            sentences.due("sign " + sign + " with places", Make.BOUNDS, () -> x.term(sign, 0, 1, 2));
        }
        for (int t : Make.noTerms(x)) {
            if (t != NONE) {
                sentences.due("first place " + t, Make.BOUNDS, () -> x.term(9, t, NONE, NONE));
                sentences.due("second place " + t, Make.BOUNDS, () -> x.term(9, 0, t, NONE));
                sentences.due("third place " + t, Make.BOUNDS, () -> x.term(9, 0, 5, t));
                sentences.due("all places " + t, Make.BOUNDS, () -> x.term(9, t, t, t));
            }
        }
        sentences.due("nothing has changed", before, () -> Make.state(x));
        sentences.due("the first and the last that are", 6, () -> x.term(9, 0, 5, 0));
        CongruenceRows y = Make.sixtyApart();
        sentences.due("the 61st in a place", Make.BOUNDS, () -> Make.of(y, 10, 0, 60));
    }

    private void termOfOtherPlaces() {
        sentences.by("Promise 3", "IllegalArgumentException: the sign was used with more or fewer places.");
        CongruenceRows x = new CongruenceRows();
        Make.plain(x, 0);
        for (int places = 1; places < 4; places++) {
            Make.ofMany(x, places, places, 0);
        }
        String before = Make.state(x);
        for (int sign = 0; sign < 4; sign++) {
            for (int places = 0; places < 4; places++) {
                int asked = sign;
                int many = places;
                sentences.due("used with " + sign + ", now " + places, sign == places ? sign : Make.ARGUMENT,
                        () -> Make.ofMany(x, asked, many, 0));
            }
        }
        sentences.due("nothing has changed", before, () -> Make.state(x));
        CongruenceRows y = new CongruenceRows();
        Make.plain(y, 0);
        sentences.due("a refused use", Make.BOUNDS, () -> Make.of(y, 5, 1));
        sentences.due("is not the first", 1, () -> y.term(5, 0, 0, 0));
    }

    private void termTheSixtyFirst() {
        sentences.by("Promise 3", "IllegalStateException: it would be the 61st.");
        CongruenceRows x = new CongruenceRows();
        x.builder(2);
        Make.plain(x, 0);
        for (int t = 1; t < 59; t++) {
            Make.of(x, 1, t - 1);
        }
        sentences.due("the 60th", 59, () -> Make.of(x, 1, 58));
        sentences.due("the 61st", Make.STATE, () -> Make.of(x, 1, 59));
        sentences.due("of a new sign", Make.STATE, () -> Make.plain(x, 15));
        sentences.due("of a builder", Make.STATE, () -> x.term(2, 0, 1, 2));
        sentences.due("sixty are there", 60, () -> x.about(0));
        sentences.due("a refused one uses no sign", 2, () -> x.about(2));
        sentences.due("which may be a builder still", "nothing", () -> Make.builder(x, 15));
        sentences.due("one that is there is no 61st", 59, () -> Make.of(x, 1, 58));
        sentences.due("nor is the first", 0, () -> Make.plain(x, 0));
        sentences.due("the 60th has kept its place", 58, () -> x.part(59, 1));
        sentences.due("there is no term 60", NONE, () -> x.part(60, 0));
        x.fact(0, 59, true);
        x.undo();
        sentences.due("undo makes no room", Make.STATE, () -> Make.of(x, 1, 59));
    }

    private void partSign() {
        sentences.by("Promise 4", "Of a term: its sign (what = 0),");
        CongruenceRows x = new CongruenceRows();
        for (int sign = 15; sign >= 0; sign--) {
            int t = Make.plain(x, sign);
            sentences.due("sign " + sign, sign, () -> x.part(t, 0));
        }
        x.fact(0, 15, true);
        sentences.due("its own, not that of one with it", 15, () -> x.part(0, 0));
    }

    private void partPlaces() {
        sentences.by("Promise 4", "its places' terms (1 .. 3; NONE without),");
        CongruenceRows x = Make.sixPlain();
        Make.of(x, 6, 0);
        Make.of(x, 7, 1, 0);
        x.term(8, 5, 4, 3);
        int[][] want = {{NONE, NONE, NONE}, {0, NONE, NONE}, {1, 0, NONE}, {5, 4, 3}};
        for (int places = 0; places < 4; places++) {
            for (int place = 1; place < 4; place++) {
                int t = 5 + places;
                int asked = place;
                sentences.due("place " + place + " of " + places, want[places][place - 1], () -> x.part(t, asked));
            }
        }
        x.fact(5, 2, true);
        sentences.due("its own, not the least that is one with it", 5, () -> x.part(8, 1));
    }

    private void partHowMany() {
        sentences.by("Promise 4", "how many terms stand in it, itself with them, each once (4).");
        CongruenceRows x = new CongruenceRows();
        Make.plain(x, 0);
        sentences.due("itself alone", 1, () -> x.part(0, 4));
        for (int t = 1; t < 60; t++) {
            int asked = t;
            x.term(1, t - 1, t - 1, t - 1);
            sentences.due("each once, " + t, t + 1, () -> x.part(asked, 4));
        }
        CongruenceRows y = Make.sixPlain();
        for (int t = 0; t < 6; t++) {
            int asked = t;
            sentences.due("nothing in it, " + t, 1, () -> y.part(asked, 4));
        }
        int last = Make.of(y, 8, 5);
        sentences.due("the last in it", 2, () -> y.part(last, 4));
        int f = Make.of(y, 6, 0);
        int g = y.term(7, f, 1, 2);
        int h = y.term(7, g, f, 3);
        sentences.due("places that share none", 5, () -> y.part(g, 4));
        sentences.due("places that share some", 7, () -> y.part(h, 4));
        y.fact(1, 2, true);
        y.fact(0, 3, true);
        sentences.due("one terms are counted each", 7, () -> y.part(h, 4));
    }

    private void partOfAnotherWhat() {
        sentences.by("Promise 4", "NONE for another what,");
        CongruenceRows x = Make.sixPlain();
        int t = x.term(6, 0, 1, 2);
        for (int what : new int[] {-1, -2, -4, 5, 6, 8, 16, 64, 256, 65536, Integer.MIN_VALUE, Integer.MAX_VALUE}) {
            sentences.due("what " + what, NONE, () -> x.part(t, what));
        }
    }

    private void partOfNoTerm() {
        sentences.by("Promise 4", "or if there is no such term.");
        CongruenceRows x = Make.sixPlain();
        for (int t : Make.noTerms(x)) {
            for (int what = -1; what < 6; what++) {
                int asked = what;
                sentences.due("term " + t + ", what " + what, NONE, () -> x.part(t, asked));
            }
        }
        CongruenceRows y = Make.sixtyApart();
        sentences.due("the last that is", 10, () -> y.part(59, 0));
        sentences.due("the next", NONE, () -> y.part(60, 0));
    }

    private void factNumber() {
        sentences.by("Promise 5", "A fact: SAME, or OTHER: its number.");
        CongruenceRows x = Make.sixtyApart();
        for (int f = 0; f < 40; f++) {
            int want = f;
            boolean same = f % 3 != 0;
            sentences.due("number " + f, want, () -> x.fact(59, 10 + want, same));
        }
        sentences.due("an OTHER", NONE, () -> x.reason(59, 46));
        sentences.due("a SAME", 1L << 37, () -> x.reason(47, 59));
        sentences.due("an OTHER again", true, () -> x.isOther(59, 49));
        CongruenceRows y = Make.sixPlain();
        sentences.due("the same fact", 0, () -> y.fact(0, 1, true));
        sentences.due("told again", 1, () -> y.fact(0, 1, true));
        sentences.due("and the other way round", 2, () -> y.fact(1, 0, true));
        sentences.due("is three facts", 3, () -> y.about(1));
    }

    private void factOfNoTerm() {
        sentences.by("Promise 5", "IndexOutOfBoundsException: no such term.");
        CongruenceRows x = Make.sixPlain();
        x.fact(0, 1, true);
        String before = Make.state(x);
        for (int t : Make.noTerms(x)) {
            sentences.due("ahead, SAME " + t, Make.BOUNDS, () -> x.fact(t, 0, true));
            sentences.due("behind, SAME " + t, Make.BOUNDS, () -> x.fact(0, t, true));
            sentences.due("ahead, OTHER " + t, Make.BOUNDS, () -> x.fact(t, 0, false));
            sentences.due("behind, OTHER " + t, Make.BOUNDS, () -> x.fact(0, t, false));
            sentences.due("both " + t, Make.BOUNDS, () -> x.fact(t, t, true));
        }
        sentences.due("nothing has changed", before, () -> Make.state(x));
        sentences.due("the last that is", 1, () -> x.fact(5, 5, true));
    }

    private void factTheFortyFirst() {
        sentences.by("Promise 5", "IllegalStateException: there are 40.");
        CongruenceRows x = Make.sixPlain();
        Make.repeat(x, 39, 0, 1, true);
        sentences.due("the 40th", 39, () -> x.fact(1, 2, true));
        String before = Make.state(x);
        sentences.due("the 41st, a SAME", Make.STATE, () -> x.fact(3, 4, true));
        sentences.due("the 41st, an OTHER", Make.STATE, () -> x.fact(0, 1, false));
        sentences.due("nothing has changed", before, () -> Make.state(x));
        x.undo();
        sentences.due("the 40th has gone", false, () -> x.isOne(1, 2));
        sentences.due("there is room for one", 39, () -> x.fact(4, 5, true));
        sentences.due("and no more", Make.STATE, () -> x.fact(4, 5, true));
        sentences.due("that one counts", 1L << 39, () -> x.reason(4, 5));
    }

    private void undoTheLatest() {
        sentences.by("Promise 6", "The latest fact goes:");
        int[][] told = {{0, 1, 1}, {1, 2, 1}, {0, 2, 0}, {3, 3, 1}, {6, 5, 1}};
        CongruenceRows x = withFacts(told, told.length);
        for (int f = told.length - 1; f >= 0; f--) {
            String before = Make.state(withFacts(told, f));
            x.undo();
            sentences.due("all is as before fact " + f, before, () -> Make.state(x));
        }
        CongruenceRows y = withFacts(told, 3);
        sentences.due("fact 2 is there", 7, y::clash);
        y.undo();
        sentences.due("fact 2 has gone", NONE, y::clash);
        sentences.due("fact 1 is there", 3, () -> y.reason(0, 2));
        y.undo();
        sentences.due("fact 1 has gone", NONE, () -> y.reason(0, 2));
        sentences.due("fact 0 is there", 1, () -> y.reason(0, 1));
        sentences.due("terms stay", 7, () -> y.about(0));
        sentences.due("signs stay used", 7, () -> y.about(2));
        sentences.due("builders stay", 6, () -> y.row(6, 2));
    }

    /** Terms 0 .. 6, the last of a builder, and the first facts of those told. */
    private static CongruenceRows withFacts(int[][] told, int count) {
        CongruenceRows x = new CongruenceRows();
        x.builder(6);
        for (int sign = 0; sign < 7; sign++) {
            Make.plain(x, sign);
        }
        for (int f = 0; f < count; f++) {
            x.fact(told[f][0], told[f][1], told[f][2] == 1);
        }
        return x;
    }

    private void undoWhetherThereWasOne() {
        sentences.by("Promise 6", "whether there was one.");
        CongruenceRows x = Make.sixPlain();
        sentences.due("none", false, x::undo);
        sentences.due("none again", false, x::undo);
        sentences.due("none have come of it", 0, () -> x.about(1));
        Make.repeat(x, 40, 0, 1, true);
        sentences.due("a refused one", Make.STATE, () -> x.fact(2, 3, true));
        for (int f = 39; f >= 0; f--) {
            int left = f;
            sentences.due("fact " + f, true, x::undo);
            sentences.due("so many are left", left, () -> x.about(1));
        }
        sentences.due("none is left", false, x::undo);
        sentences.due("nothing is one", false, () -> x.isOne(0, 1));
        x.fact(0, 1, false);
        sentences.due("an OTHER", true, x::undo);
        sentences.due("numbers begin at 0", 0, () -> x.fact(0, 1, true));
    }
}
