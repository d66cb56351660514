/** The sentences of promises 7 to 14: the questions, which change nothing. */
final class QuestionBoundaries {
    private static final int NONE = Make.NONE;
    private static final long ALL_FACTS = (1L << 40) - 1;

    private final Sentences sentences;

    QuestionBoundaries(Sentences sentences) {
        this.sentences = sentences;
    }

    void run() {
        isOneByAllFacts();
        isOneOfNoTerm();
        clashesByAllFacts();
        isOtherByAllFactsAndASame();
        isOtherOfNoTerm();
        rowLeast();
        rowHowMany();
        rowLeastBuilt();
        rowHowManyRows();
        rowOfNoTerm();
        rowOfAnotherWhat();
        reasonAsBits();
        reasonWithout();
        reasonOfNoTerm();
        clashAsBits();
        clashWithout();
        idleAsBits();
        idleByFactsAhead();
        aboutCounts();
        aboutAnotherWhat();
    }

    /** Two terms that a question is about. */
    private interface Question {
        Object ask(int a, int b);
    }

    private void refusesNoTerm(CongruenceRows x, Question question) {
        for (int t : Make.noTerms(x)) {
            sentences.due("ahead " + t, Make.BOUNDS, () -> question.ask(t, 0));
            sentences.due("behind " + t, Make.BOUNDS, () -> question.ask(0, t));
            sentences.due("both " + t, Make.BOUNDS, () -> question.ask(t, t));
        }
    }

    /** Six terms, of which two are one and two are other. */
    private static CongruenceRows sixWithFacts() {
        CongruenceRows x = Make.sixPlain();
        x.fact(0, 1, true);
        x.fact(4, 5, false);
        return x;
    }

    private void isOneByAllFacts() {
        sentences.by("Promise 7", "Whether all facts make two terms one.");
        CongruenceRows x = Make.sixtyApart();
        sentences.due("without facts", false, () -> x.isOne(10, 59));
        Make.repeat(x, 38, 0, 0, true);
        x.fact(10, 11, true);
        sentences.due("one fact short", false, () -> x.isOne(10, 59));
        x.fact(11, 59, true);
        sentences.due("with the 40th", true, () -> x.isOne(59, 10));
        x.undo();
        sentences.due("without it again", false, () -> x.isOne(59, 10));
        CongruenceRows y = sixWithFacts();
        String before = Make.state(y);
        sentences.due("OTHERs make none one", false, () -> y.isOne(4, 5));
        y.isOne(0, 5);
        sentences.due("it changes nothing", before, () -> Make.state(y));
        y.fact(0, 1, false);
        sentences.due("in a clash too", true, () -> y.isOne(0, 1));
        sentences.due("which makes no more one", false, () -> y.isOne(0, 2));
    }

    private void isOneOfNoTerm() {
        sentences.by("Promise 7", "IndexOutOfBoundsException: no such term.");
        CongruenceRows x = sixWithFacts();
        String before = Make.state(x);
        refusesNoTerm(x, x::isOne);
        sentences.due("nothing has changed", before, () -> Make.state(x));
        sentences.due("the last that is", true, () -> x.isOne(5, 5));
    }

    private void clashesByAllFacts() {
        sentences.by("Promise 8", "Whether all facts clash.");
        sentences.due("without facts or terms", false, () -> new CongruenceRows().clashes());
        CongruenceRows x = Make.chain(true);
        sentences.due("without facts", false, x::clashes);
        Make.repeat(x, 39, 59, 0, false);
        sentences.due("with 39 that do not", false, x::clashes);
        x.fact(59, 0, true);
        sentences.due("with the 40th", true, x::clashes);
        x.undo();
        sentences.due("without it again", false, x::clashes);
        CongruenceRows y = Make.sixPlain();
        y.fact(0, 0, false);
        Make.repeat(y, 39, 1, 2, true);
        sentences.due("by the first of forty", true, y::clashes);
        String before = Make.state(y);
        y.clashes();
        sentences.due("it changes nothing", before, () -> Make.state(y));
    }

    private void isOtherByAllFactsAndASame() {
        sentences.by("Promise 9", "Whether all facts, and a SAME of these two, clash.");
        CongruenceRows x = Make.sixPlain();
        sentences.due("without facts", false, () -> x.isOther(0, 5));
        sentences.due("a term and itself", false, () -> x.isOther(5, 5));
        Make.repeat(x, 39, 0, 1, true);
        x.fact(1, 2, false);
        String before = Make.state(x);
        sentences.due("with 40 facts, by the last", true, () -> x.isOther(0, 2));
        sentences.due("the other way round", true, () -> x.isOther(2, 0));
        sentences.due("with 40 facts, no clash", false, () -> x.isOther(2, 3));
        sentences.due("with 40 facts, one already", false, () -> x.isOther(0, 1));
        sentences.due("it is no fact", before, () -> Make.state(x));
        x.undo();
        sentences.due("without the OTHER", false, () -> x.isOther(0, 2));
        x.fact(3, 3, false);
        sentences.due("all facts clash, itself", true, () -> x.isOther(4, 4));
        sentences.due("all facts clash, any two", true, () -> x.isOther(4, 5));
        CongruenceRows y = Make.chain(true);
        for (int t = 1; t < 60; t++) {
            int asked = t;
            sentences.due("by depth, " + t, true, () -> y.isOther(asked, 0));
        }
        sentences.due("by depth, itself", false, () -> y.isOther(59, 59));
        CongruenceRows z = new CongruenceRows();
        z.builder(0);
        z.builder(1);
        z.builder(3);
        for (int sign = 0; sign < 3; sign++) {
            Make.plain(z, sign);
        }
        int one = Make.of(z, 3, 0);
        int two = Make.of(z, 3, 1);
        int three = Make.of(z, 3, 2);
        sentences.due("by two builders", true, () -> z.isOther(0, 1));
        sentences.due("by two builders in places", true, () -> z.isOther(one, two));
        sentences.due("by one builder", false, () -> z.isOther(two, three));
    }

    private void isOtherOfNoTerm() {
        sentences.by("Promise 9", "IndexOutOfBoundsException: no such term.");
        CongruenceRows x = sixWithFacts();
        String before = Make.state(x);
        refusesNoTerm(x, x::isOther);
        sentences.due("nothing has changed", before, () -> Make.state(x));
        x.fact(0, 1, false);
        sentences.due("in a clash too", Make.BOUNDS, () -> x.isOther(0, 6));
        sentences.due("the last that is", true, () -> x.isOther(5, 5));
    }

    private void rowLeast() {
        sentences.by("Promise 10", "The least number of a term that is one with t (what = 0),");
        CongruenceRows x = Make.sixtyApart();
        for (int t = 0; t < 60; t++) {
            int asked = t;
            sentences.due("itself, " + t, t, () -> x.row(asked, 0));
        }
        x.fact(59, 58, true);
        sentences.due("of two", 58, () -> x.row(59, 0));
        x.fact(57, 56, true);
        x.fact(59, 57, true);
        sentences.due("of four", 56, () -> x.row(58, 0));
        x.fact(58, 0, true);
        sentences.due("the first of all", 0, () -> x.row(59, 0));
        sentences.due("of the least itself", 0, () -> x.row(0, 0));
        x.undo();
        sentences.due("after undo", 56, () -> x.row(59, 0));
    }

    private void rowHowMany() {
        sentences.by("Promise 10", "how many are (1),");
        CongruenceRows x = Make.chain(false);
        sentences.due("itself alone, the first", 1, () -> x.row(0, 1));
        sentences.due("itself alone, the last", 1, () -> x.row(59, 1));
        x.fact(58, 59, true);
        sentences.due("two", 2, () -> x.row(58, 1));
        x.fact(0, 1, true);
        sentences.due("all sixty, of the first", 60, () -> x.row(0, 1));
        sentences.due("all sixty, of the last", 60, () -> x.row(59, 1));
        x.undo();
        sentences.due("after undo", 1, () -> x.row(0, 1));
    }

    private void rowLeastBuilt() {
        sentences.by("Promise 10", "the least one of a builder's sign (2; NONE without),");
        CongruenceRows x = new CongruenceRows();
        x.builder(3);
        x.builder(5);
        for (int sign = 0; sign < 6; sign++) {
            Make.plain(x, sign);
        }
        for (int t = 0; t < 6; t++) {
            int asked = t;
            sentences.due("alone, " + t, t == 3 || t == 5 ? t : NONE, () -> x.row(asked, 2));
        }
        x.fact(0, 1, true);
        sentences.due("two without", NONE, () -> x.row(0, 2));
        x.fact(1, 5, true);
        sentences.due("not the least, but a builder's", 5, () -> x.row(0, 2));
        x.fact(4, 3, true);
        sentences.due("ahead of the term asked", 3, () -> x.row(4, 2));
        x.fact(0, 4, true);
        sentences.due("of two builders", 3, () -> x.row(5, 2));
        CongruenceRows y = Make.chain(true);
        sentences.due("the last of sixty", 59, () -> y.row(59, 2));
        sentences.due("the first of sixty", NONE, () -> y.row(0, 2));
    }

    private void rowHowManyRows() {
        sentences.by("Promise 10", "how many different rows of one terms there are in all (3).");
        CongruenceRows one = new CongruenceRows();
        Make.plain(one, 15);
        sentences.due("of one term", 1, () -> one.row(0, 3));
        CongruenceRows x = Make.sixtyApart();
        sentences.due("of sixty", 60, () -> x.row(59, 3));
        for (int f = 0; f < 40; f++) {
            int left = 59 - f;
            x.fact(10 + f, 11 + f, true);
            sentences.due("with facts 0 .. " + f, left, () -> x.row(0, 3));
        }
        CongruenceRows y = Make.chain(false);
        y.fact(0, 1, true);
        sentences.due("of sixty that are one", 1, () -> y.row(30, 3));
    }

    private void rowOfNoTerm() {
        sentences.by("Promise 10", "IndexOutOfBoundsException: no such term.");
        CongruenceRows x = sixWithFacts();
        String before = Make.state(x);
        for (int t : Make.noTerms(x)) {
            for (int what = 0; what < 4; what++) {
                int asked = what;
                sentences.due("term " + t + ", what " + what, Make.BOUNDS, () -> x.row(t, asked));
            }
        }
        sentences.due("nothing has changed", before, () -> Make.state(x));
        sentences.due("the last that is", 5, () -> x.row(5, 0));
    }

    private void rowOfAnotherWhat() {
        sentences.by("Promise 10", "NONE for another what.");
        CongruenceRows x = sixWithFacts();
        for (int what : new int[] {-1, -2, -3, 4, 5, 8, 16, 64, 256, 65536, Integer.MIN_VALUE, Integer.MAX_VALUE}) {
            sentences.due("what " + what, NONE, () -> x.row(0, what));
        }
        sentences.due("the last what", 5, () -> x.row(0, 3));
    }

    private void reasonAsBits() {
        sentences.by("Promise 11", "The REASON why two terms are one, as bits of facts;");
        CongruenceRows x = Make.sixtyApart();
        for (int f = 0; f < 40; f++) {
            x.fact(10 + f, 11 + f, true);
        }
        for (int f = 0; f < 40; f++) {
            int left = 10 + f;
            long up = (1L << f + 1) - 1;
            sentences.due("bit " + f, 1L << f, () -> x.reason(left + 1, left));
            sentences.due("bits 0 .. " + f, up, () -> x.reason(10, left + 1));
            sentences.due("bits " + f + " .. 39", ALL_FACTS & ~(up >> 1), () -> x.reason(50, left));
        }
        sentences.due("no bits, itself", 0, () -> x.reason(59, 59));
        CongruenceRows y = sixWithFacts();
        String before = Make.state(y);
        y.reason(0, 1);
        y.reason(0, 2);
        sentences.due("it changes nothing", before, () -> Make.state(y));
        y.fact(0, 1, false);
        sentences.due("in a clash, without OTHERs", 1, () -> y.reason(0, 1));
    }

    private void reasonWithout() {
        sentences.by("Promise 11", "NONE if they are not.");
        CongruenceRows x = Make.sixPlain();
        sentences.due("without facts", NONE, () -> x.reason(0, 5));
        x.fact(0, 5, false);
        sentences.due("an OTHER", NONE, () -> x.reason(0, 5));
        Make.repeat(x, 39, 0, 1, true);
        sentences.due("with 40 facts", NONE, () -> x.reason(0, 5));
        x.undo();
        x.fact(5, 5, false);
        sentences.due("in a clash", NONE, () -> x.reason(0, 5));
        sentences.due("but not of itself", 0, () -> x.reason(5, 5));
    }

    private void reasonOfNoTerm() {
        sentences.by("Promise 11", "IndexOutOfBoundsException: no such term.");
        CongruenceRows x = sixWithFacts();
        String before = Make.state(x);
        refusesNoTerm(x, x::reason);
        sentences.due("nothing has changed", before, () -> Make.state(x));
        x.fact(0, 1, false);
        sentences.due("NONE is none, in a clash too", Make.BOUNDS, () -> x.reason(NONE, NONE));
        sentences.due("the last that is", 0, () -> x.reason(5, 5));
    }

    private void clashAsBits() {
        sentences.by("Promise 12", "The REASON of the clash, as bits;");
        for (int f = 0; f < 40; f++) {
            CongruenceRows x = Make.sixPlain();
            Make.repeat(x, f, 1, 2, true);
            x.fact(3, 3, false);
            Make.repeat(x, 39 - f, 1, 2, true);
            sentences.due("bit " + f, 1L << f, x::clash);
        }
        for (int f = 0; f < 40; f++) {
            CongruenceRows x = Make.sixtyApart();
            for (int told = 0; told < 40; told++) {
                x.fact(10 + told, told == f ? 10 + told : 11 + told, told != f);
            }
            sentences.due("bit " + f + " amid facts that are not idle", 1L << f, x::clash);
        }
        for (int f = 1; f < 40; f++) {
            CongruenceRows x = Make.sixPlain();
            boolean sameFirst = f % 2 == 1;
            Make.repeat(x, f, 1, 2, sameFirst);
            Make.repeat(x, 40 - f, 2, 1, !sameFirst);
            sentences.due("bits 0 and " + f, 1 + (1L << f), x::clash);
        }
        CongruenceRows y = new CongruenceRows();
        y.builder(0);
        y.builder(1);
        y.builder(3);
        for (int sign = 0; sign < 3; sign++) {
            Make.plain(y, sign);
        }
        int over = Make.of(y, 3, 2);
        y.fact(2, 2, true);
        y.fact(0, 2, true);
        y.fact(2, 1, true);
        sentences.due("by two builders", 6, y::clash);
        y.undo();
        y.undo();
        y.fact(over, 2, true);
        sentences.due("by depth", 2, y::clash);
        String before = Make.state(y);
        y.clash();
        sentences.due("it changes nothing", before, () -> Make.state(y));
    }

    private void clashWithout() {
        sentences.by("Promise 12", "NONE without one.");
        sentences.due("without terms", NONE, () -> new CongruenceRows().clash());
        CongruenceRows x = Make.chain(true);
        sentences.due("without facts", NONE, x::clash);
        for (int f = 0; f < 40; f++) {
            x.fact(f, f + 1, false);
        }
        sentences.due("with 40 facts", NONE, x::clash);
        x.undo();
        x.fact(0, 1, true);
        sentences.due("not with one", true, () -> x.clash() != NONE);
        x.undo();
        sentences.due("after undo", NONE, x::clash);
    }

    private void idleAsBits() {
        sentences.by("Promise 13", "Facts that are IDLE, as bits:");
        sentences.due("without terms", 0, () -> new CongruenceRows().idle());
        CongruenceRows x = Make.sixPlain();
        sentences.due("without facts", 0, x::idle);
        for (int f = 0; f < 40; f++) {
            long up = (1L << f + 1) - 1;
            x.fact(5, 5, true);
            sentences.due("bits 0 .. " + f, up, x::idle);
        }
        for (int f = 1; f < 40; f++) {
            CongruenceRows y = Make.sixtyApart();
            for (int told = 0; told < 40; told++) {
                y.fact(10 + told, told == f ? 10 + told : 11 + told, true);
            }
            sentences.due("bit " + f, 1L << f, y::idle);
        }
        CongruenceRows z = sixWithFacts();
        z.fact(1, 0, true);
        String before = Make.state(z);
        z.idle();
        sentences.due("it changes nothing", before, () -> Make.state(z));
    }

    private void idleByFactsAhead() {
        sentences.by("Promise 13", "SAMEs whose two terms the facts ahead of them make one.");
        CongruenceRows x = Make.sixPlain();
        x.fact(0, 0, true);
        sentences.due("the first, of one term", 1, x::idle);
        x.undo();
        x.fact(0, 1, true);
        sentences.due("the first, of two", 0, x::idle);
        x.fact(0, 1, true);
        sentences.due("the same again", 2, x::idle);
        x.fact(0, 1, false);
        x.fact(3, 3, false);
        sentences.due("an OTHER is none", 2, x::idle);
        x.fact(1, 0, true);
        sentences.due("in a clash too", 2 + 16, x::idle);
        x.fact(1, 2, true);
        x.fact(2, 0, true);
        sentences.due("by a third", 2 + 16 + 64, x::idle);
        CongruenceRows y = Make.sixPlain();
        y.fact(0, 1, false);
        y.fact(0, 1, true);
        sentences.due("an OTHER ahead makes none one", 0, y::idle);
        CongruenceRows z = Make.sixPlain();
        z.fact(0, 2, true);
        z.fact(0, 1, true);
        z.fact(1, 2, true);
        sentences.due("facts behind do not count", 4, z::idle);
        CongruenceRows v = new CongruenceRows();
        v.builder(2);
        Make.plain(v, 0);
        Make.plain(v, 1);
        v.fact(Make.of(v, 2, 0), Make.of(v, 2, 1), true);
        v.fact(0, 1, true);
        v.fact(Make.of(v, 3, 0), Make.of(v, 3, 1), true);
        sentences.due("by builders and by places", 6, v::idle);
    }

    private void aboutCounts() {
        sentences.by("Promise 14", "Terms, facts, signs that were used: what 0 .. 2;");
        CongruenceRows x = new CongruenceRows();
        for (int what = 0; what < 3; what++) {
            int asked = what;
            sentences.due("empty, " + what, 0, () -> x.about(asked));
        }
        for (int sign = 0; sign < 16; sign++) {
            int used = sign + 1;
            Make.plain(x, sign);
            sentences.due("terms", used, () -> x.about(0));
            sentences.due("signs", used, () -> x.about(2));
        }
        CongruenceRows y = Make.sixtyApart();
        Make.repeat(y, 40, 0, 1, false);
        sentences.due("full of terms", 60, () -> y.about(0));
        sentences.due("full of facts", 40, () -> y.about(1));
        sentences.due("eleven signs", 11, () -> y.about(2));
        Make.of(y, 10, 1, 0);
        sentences.due("a term that is there is no more", 60, () -> y.about(0));
        CongruenceRows z = new CongruenceRows();
        z.builder(0);
        sentences.due("a builder is not used yet", 0, () -> z.about(2));
        Make.plain(z, 0);
        sentences.due("now it is", 1, () -> z.about(2));
        Make.of(z, 1, 0);
        Make.of(z, 1, 1);
        sentences.due("twice counts once", 2, () -> z.about(2));
        z.fact(0, 1, true);
        sentences.due("one terms are counted each", 3, () -> z.about(0));
        z.undo();
        sentences.due("facts after undo", 0, () -> z.about(1));
    }

    private void aboutAnotherWhat() {
        sentences.by("Promise 14", "NONE for another what.");
        CongruenceRows x = sixWithFacts();
        for (int what : new int[] {-1, -2, 3, 4, 8, 16, 64, 256, 65536, Integer.MIN_VALUE, Integer.MAX_VALUE}) {
            sentences.due("what " + what, NONE, () -> x.about(what));
        }
        sentences.due("the last what", 6, () -> x.about(2));
        sentences.due("of a new object", NONE, () -> new CongruenceRows().about(3));
    }
}
