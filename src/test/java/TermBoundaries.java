/** The sentences of the document's section "Terms". */
final class TermBoundaries {
    private static final int NONE = Make.NONE;
    private static final long ALL_FACTS = (1L << 40) - 1;

    private final Sentences sentences;

    TermBoundaries(Sentences sentences) {
        this.sentences = sentences;
    }

    void run() {
        signsAndPlaces();
        placesOfFirstUse();
        anySignMayBuild();
        termForEachPlace();
        sameOfTheSame();
        fortyFacts();
        sameOrOther();
        numbersOfFacts();
        oneWithItself();
        twoOfASame();
        oneWithAThird();
        oneByPlaces();
        oneByBuilders();
        allTermsThatThereAre();
        clashByOther();
        clashByTwoBuilders();
        clashByDepth();
        belowATerm();
        fromTheLastToTheFirst();
        keptSoFarAndAhead();
        keptAreTheReason();
    }

    private void by(String words) {
        sentences.by("Terms", words);
    }

    private void signsAndPlaces() {
        by("SIGNS 0 .. 15 have 0 to 3 places,");
        for (int sign = 0; sign < 16; sign++) {
            for (int places = 0; places < 4; places++) {
                String told = "sign " + sign + ", places " + places;
                int made = sign;
                int many = places;
                CongruenceRows x = new CongruenceRows();
                Make.plain(x, (sign + 1) % 16);
                sentences.due(told, 1, () -> Make.ofMany(x, made, many, 0));
                sentences.due(told + ", its sign", sign, () -> x.part(1, 0));
                for (int place = 1; place < 4; place++) {
                    int asked = place;
                    sentences.due(told + ", place " + place, place <= places ? 0 : NONE, () -> x.part(1, asked));
                }
            }
        }
        CongruenceRows y = Make.sixPlain();
        for (int sign : new int[] {-1, -2, -16, 16, 17, 32, 64, 256, Integer.MIN_VALUE, Integer.MAX_VALUE}) {
            sentences.due("term of sign " + sign, Make.BOUNDS, () -> Make.of(y, sign, 0));
            sentences.due("builder of sign " + sign, Make.BOUNDS, () -> Make.builder(y, sign));
        }
    }

    private void placesOfFirstUse() {
        by("as many as when they were used first,");
        for (int first = 0; first < 4; first++) {
            for (int places = 0; places < 4; places++) {
                CongruenceRows x = new CongruenceRows();
                Make.plain(x, 0);
                Make.ofMany(x, 15, first, 0);
                int many = places;
                int isNew = first == 0 ? 1 : 2;
                sentences.due("first " + first + ", then " + places, places == first ? isNew : Make.ARGUMENT,
                        () -> Make.ofMany(x, 15, many, 1));
                int same = first;
                sentences.due("first " + first + ", not " + places + ", and again " + first, 1,
                        () -> Make.ofMany(x, 15, same, 0));
            }
        }
        CongruenceRows y = Make.sixPlain();
        sentences.due("a builder has no places yet", "nothing", () -> Make.builder(y, 6));
        sentences.due("so it may have three", 6, () -> y.term(6, 0, 1, 2));
        sentences.due("and has them", Make.ARGUMENT, () -> Make.plain(y, 6));
    }

    private void anySignMayBuild() {
        by("and may be BUILDERS.");
        for (int sign = 0; sign < 16; sign++) {
            for (int places = 0; places < 4; places++) {
                CongruenceRows x = new CongruenceRows();
                Make.plain(x, (sign + 1) % 16);
                Make.plain(x, (sign + 2) % 16);
                x.builder(sign);
                int one = Make.ofMany(x, sign, places, 0);
                int two = Make.ofMany(x, sign, places, 1);
                x.fact(one, two, true);
                String told = "sign " + sign + ", places " + places;
                sentences.due(told + " is a builder", one, () -> x.row(two, 2));
                sentences.due(told + " makes places one", places > 0, () -> x.isOne(0, 1));
            }
        }
    }

    private void termForEachPlace() {
        by("A TERM is a sign with a term for each place;");
        CongruenceRows x = new CongruenceRows();
        sentences.due("no term to stand in it", Make.BOUNDS, () -> Make.of(x, 0, 0));
        sentences.due("a sign alone", 0, () -> Make.plain(x, 0));
        sentences.due("not itself in the first place", Make.BOUNDS, () -> x.term(1, 1, 0, 0));
        sentences.due("not itself in the second place", Make.BOUNDS, () -> x.term(1, 0, 1, 0));
        sentences.due("not itself in the third place", Make.BOUNDS, () -> x.term(1, 0, 0, 1));
        sentences.due("one term in each place", 1, () -> x.term(1, 0, 0, 0));
        sentences.due("the latest in each place", 2, () -> x.term(1, 1, 1, 1));
    }

    private void sameOfTheSame() {
        by("the same of the same is the same term.");
        CongruenceRows x = Make.sixPlain();
        int three = x.term(6, 0, 1, 2);
        sentences.due("three places", three, () -> x.term(6, 0, 1, 2));
        sentences.due("another first place", three + 1, () -> x.term(6, 3, 1, 2));
        sentences.due("another second place", three + 2, () -> x.term(6, 0, 3, 2));
        sentences.due("another third place", three + 3, () -> x.term(6, 0, 1, 3));
        sentences.due("places the other way round", three + 4, () -> x.term(6, 2, 1, 0));
        sentences.due("another sign", three + 5, () -> x.term(7, 0, 1, 2));
        sentences.due("no places", 5, () -> Make.plain(x, 5));
        x.fact(0, 3, true);
        sentences.due("one is not the same", three + 1, () -> x.term(6, 3, 1, 2));
        sentences.due("nor is a new one of one terms", three + 6, () -> x.term(7, 3, 1, 2));
        CongruenceRows y = Make.sixtyApart();
        for (int t = 0; t < 10; t++) {
            int want = t;
            sentences.due("of all sixty, " + t, want, () -> Make.plain(y, want));
        }
        for (int t = 10; t < 60; t++) {
            int want = t;
            sentences.due("of all sixty, " + t, want, () -> Make.of(y, 10, want / 10, want % 10));
        }
        sentences.due("and there are no more", 60, () -> y.about(0));
    }

    private void fortyFacts() {
        by("FACTS, at most 40,");
        CongruenceRows x = Make.sixPlain();
        Make.repeat(x, 20, 0, 1, true);
        Make.repeat(x, 19, 2, 3, false);
        sentences.due("the 40th", 39, () -> x.fact(4, 5, true));
        sentences.due("the 41st", Make.STATE, () -> x.fact(0, 2, true));
        sentences.due("the 41st that is known", Make.STATE, () -> x.fact(0, 1, true));
        sentences.due("the 41st, an OTHER", Make.STATE, () -> x.fact(0, 2, false));
        sentences.due("forty are there", 40, () -> x.about(1));
        sentences.due("the 40th counts", true, () -> x.isOne(5, 4));
        sentences.due("the 41st does not", false, () -> x.isOne(0, 2));
    }

    private void sameOrOther() {
        by("say of two terms that they are the same (SAME) or that they are not (OTHER);");
        CongruenceRows x = Make.sixPlain();
        x.fact(0, 1, false);
        sentences.due("an OTHER", true, () -> x.isOther(0, 1));
        sentences.due("an OTHER makes nothing one", 6, () -> x.row(0, 3));
        x.fact(2, 3, true);
        sentences.due("a SAME", true, () -> x.isOne(2, 3));
        sentences.due("a SAME of others does not clash", false, x::clashes);
        x.fact(4, 4, true);
        sentences.due("a SAME of one term", 5, () -> x.row(0, 3));
        sentences.due("clashes with nothing", false, x::clashes);
        x.fact(4, 4, false);
        sentences.due("an OTHER of one term", true, x::clashes);
    }

    private void numbersOfFacts() {
        by("they are numbered from 0 on.");
        CongruenceRows x = Make.sixPlain();
        for (int round = 0; round < 3; round++) {
            for (int f = 0; f < 40; f++) {
                boolean same = f % 2 == 0;
                sentences.due("round " + round + ", fact " + f, f, () -> x.fact(0, 1, same));
            }
            for (int f = 0; f < 40; f++) {
                x.undo();
            }
        }
        x.fact(0, 1, true);
        sentences.due("a refused one takes no number", Make.BOUNDS, () -> x.fact(0, 6, true));
        sentences.due("so the next has it", 1, () -> x.fact(1, 2, true));
    }

    private void oneWithItself() {
        by("A set of facts MAKES two terms ONE: each is one with itself;");
        CongruenceRows x = Make.sixtyApart();
        for (int t = 0; t < 60; t++) {
            int asked = t;
            sentences.due("without facts, " + t, true, () -> x.isOne(asked, asked));
            sentences.due("by no fact, " + t, 0, () -> x.reason(asked, asked));
            sentences.due("with no other, " + t, 1, () -> x.row(asked, 1));
        }
    }

    private void twoOfASame() {
        by("the two of a SAME are;");
        CongruenceRows x = Make.sixtyApart();
        x.fact(0, 59, true);
        sentences.due("the first and the last term", true, () -> x.isOne(0, 59));
        sentences.due("the last and the first", true, () -> x.isOne(59, 0));
        x.undo();
        x.fact(59, 0, true);
        sentences.due("told the other way round", true, () -> x.isOne(0, 59));
        sentences.due("and no more", 59, () -> x.row(0, 3));
    }

    private void oneWithAThird() {
        by("what is one with a third is;");
        CongruenceRows x = Make.sixtyApart();
        for (int f = 0; f < 40; f++) {
            int last = 11 + f;
            sentences.due("one fact short, " + f, false, () -> x.isOne(10, last));
            x.fact(f % 2 == 0 ? last : last - 1, f % 2 == 0 ? last - 1 : last, true);
            sentences.due("by way of " + f, true, () -> x.isOne(last, 10));
        }
        sentences.due("not what no fact names", false, () -> x.isOne(10, 51));
        CongruenceRows y = Make.sixPlain();
        y.fact(0, 1, true);
        y.fact(2, 3, true);
        sentences.due("two by themselves", false, () -> y.isOne(0, 3));
        y.fact(3, 1, true);
        for (int pair = 0; pair < 16; pair++) {
            int a = pair / 4;
            int b = pair % 4;
            sentences.due("two put together, " + a + " and " + b, true, () -> y.isOne(a, b));
        }
        sentences.due("not the rest", false, () -> y.isOne(3, 4));
    }

    private void oneByPlaces() {
        by("f a .. and f b .. are one if their places' terms are, place by place;");
        for (int places = 1; places < 4; places++) {
            CongruenceRows x = Make.sixPlain();
            int one = x.term(6, 0, places > 1 ? 1 : NONE, places > 2 ? 2 : NONE);
            int two = x.term(6, 3, places > 1 ? 4 : NONE, places > 2 ? 5 : NONE);
            for (int place = places - 1; place >= 0; place--) {
                sentences.due(places + " places, " + (place + 1) + " to go", false, () -> x.isOne(one, two));
                x.fact(place, place + 3, true);
            }
            sentences.due(places + " places", true, () -> x.isOne(one, two));
            sentences.due(places + " places, by as many facts", (1L << places) - 1, () -> x.reason(two, one));
        }
        CongruenceRows y = Make.sixPlain();
        int left = Make.of(y, 6, 0, 1);
        int right = Make.of(y, 6, 1, 0);
        int more = Make.of(y, 7, 0, 1);
        sentences.due("the other way round", false, () -> y.isOne(left, right));
        y.fact(0, 1, true);
        sentences.due("where all places are one", true, () -> y.isOne(left, right));
        sentences.due("another sign", false, () -> y.isOne(left, more));
        sentences.due("signs without places", false, () -> y.isOne(2, 3));
        CongruenceRows z = Make.chain(false);
        z.fact(0, 1, true);
        sentences.due("up through all sixty", 60, () -> z.row(59, 1));
        CongruenceRows v = new CongruenceRows();
        v.builder(0);
        Make.plain(v, 0);
        Make.plain(v, 1);
        int under = Make.of(v, 2, 0);
        int over = Make.of(v, 2, 1);
        v.fact(0, 1, true);
        sentences.due("of a builder without places", true, () -> v.isOne(under, over));
    }

    private void oneByBuilders() {
        by("if f a .. and f b .. are one and f is a builder, their places' terms are, place by place.");
        for (int places = 1; places < 4; places++) {
            CongruenceRows x = new CongruenceRows();
            x.builder(6);
            for (int sign = 0; sign < 6; sign++) {
                Make.plain(x, sign);
            }
            int one = x.term(6, 0, places > 1 ? 1 : NONE, places > 2 ? 2 : NONE);
            int two = x.term(6, 3, places > 1 ? 4 : NONE, places > 2 ? 5 : NONE);
            x.fact(one, two, true);
            for (int place = 0; place < 3; place++) {
                int asked = place;
                sentences.due(places + " places, place " + (place + 1), place < places,
                        () -> x.isOne(asked, asked + 3));
            }
            sentences.due(places + " places, not one with another", false, () -> x.isOne(0, 4));
        }
        for (int place = 0; place < 3; place++) {
            CongruenceRows x = new CongruenceRows();
            x.builder(6);
            for (int sign = 0; sign < 3; sign++) {
                Make.plain(x, sign);
            }
            int one = Make.of(x, 7, 0);
            int two = Make.of(x, 7, 1);
            x.fact(x.term(6, place == 0 ? 0 : 2, place == 1 ? 0 : 2, place == 2 ? 0 : 2),
                    x.term(6, place == 0 ? 1 : 2, place == 1 ? 1 : 2, place == 2 ? 1 : 2), true);
            sentences.due("place " + (place + 1) + " alone, and up again", true, () -> x.isOne(one, two));
        }
        CongruenceRows y = Make.sixPlain();
        y.fact(Make.of(y, 6, 0), Make.of(y, 6, 1), true);
        sentences.due("no builder", false, () -> y.isOne(0, 1));
        CongruenceRows z = new CongruenceRows();
        z.builder(2);
        z.builder(3);
        Make.plain(z, 0);
        Make.plain(z, 1);
        z.fact(Make.of(z, 2, 0), Make.of(z, 3, 1), true);
        sentences.due("two builders", false, () -> z.isOne(0, 1));
        CongruenceRows v = new CongruenceRows();
        v.builder(1);
        Make.plain(v, 0);
        Make.plain(v, 2);
        for (int t = 2; t < 60; t++) {
            Make.of(v, 1, t - 2);
        }
        v.fact(58, 59, true);
        sentences.due("down through all sixty", true, () -> v.isOne(0, 1));
        sentences.due("and nothing but that", 30, () -> v.row(0, 3));
    }

    private void allTermsThatThereAre() {
        by("(Of all terms that there are, whether they stand in facts or not.)");
        CongruenceRows x = new CongruenceRows();
        x.builder(6);
        for (int sign = 0; sign < 4; sign++) {
            Make.plain(x, sign);
        }
        int one = Make.of(x, 8, Make.of(x, 7, 0));
        int two = Make.of(x, 8, Make.of(x, 7, 1));
        x.fact(0, 1, true);
        x.fact(one, Make.of(x, 6, 2), true);
        x.fact(two, Make.of(x, 6, 3), true);
        sentences.due("by way of terms in no fact", true, () -> x.isOne(2, 3));
        sentences.due("terms in no fact", true, () -> x.isOne(4, 6));
        int late = Make.of(x, 9, 2);
        sentences.due("one made after the facts", 1, () -> x.row(late, 1));
        sentences.due("and another, one with it", true, () -> x.isOne(Make.of(x, 9, 3), late));
        CongruenceRows y = Make.sixPlain();
        y.fact(0, 1, true);
        y.fact(0, 2, true);
        sentences.due("rows of terms in no fact", 4, () -> y.row(5, 3));
        CongruenceRows z = Make.sixPlain();
        z.fact(0, 1, true);
        for (int pair = 0; pair < 36; pair++) {
            Make.of(z, 6, pair / 6, pair % 6);
        }
        sentences.due("of six terms and their 36 pairs", 5 + 25, () -> z.row(0, 3));
    }

    private void clashByOther() {
        by("It CLASHES if the two terms of an OTHER of it are one;");
        CongruenceRows x = Make.sixPlain();
        sentences.due("without facts", false, x::clashes);
        x.fact(0, 1, false);
        sentences.due("an OTHER alone", false, x::clashes);
        x.fact(0, 1, true);
        sentences.due("an OTHER ahead of the SAME", true, x::clashes);
        CongruenceRows y = Make.sixPlain();
        y.fact(1, 0, true);
        y.fact(0, 1, false);
        sentences.due("an OTHER behind the SAME", true, y::clashes);
        CongruenceRows z = Make.sixPlain();
        z.fact(5, 5, false);
        sentences.due("of one term", true, z::clashes);
        CongruenceRows v = Make.sixPlain();
        Make.repeat(v, 39, 0, 1, false);
        v.fact(2, 3, true);
        sentences.due("of others than the SAME", false, v::clashes);
        v.undo();
        v.fact(0, 1, true);
        sentences.due("as the 40th", true, v::clashes);
    }

    private void clashByTwoBuilders() {
        by("or if two terms are one whose signs are builders, and not the same one;");
        CongruenceRows x = new CongruenceRows();
        x.builder(0);
        x.builder(15);
        int a = Make.plain(x, 0);
        int b = Make.plain(x, 15);
        int c = Make.plain(x, 7);
        int d = Make.of(x, 8, c);
        sentences.due("two builders that are not one", false, x::clashes);
        x.fact(a, c, true);
        x.fact(d, c, true);
        sentences.due("one builder, two that are none", false, x::clashes);
        x.fact(b, d, true);
        sentences.due("the least and the largest sign", true, x::clashes);
        CongruenceRows y = new CongruenceRows();
        y.builder(2);
        Make.plain(y, 0);
        Make.plain(y, 1);
        y.fact(Make.of(y, 2, 0), Make.of(y, 2, 1), true);
        sentences.due("the same builder", false, y::clashes);
        CongruenceRows z = new CongruenceRows();
        z.builder(2);
        z.builder(3);
        Make.plain(z, 0);
        Make.plain(z, 1);
        int one = Make.of(z, 2, Make.plain(z, 4));
        int two = Make.of(z, 3, Make.plain(z, 5));
        z.fact(Make.of(z, 6, 0), one, true);
        z.fact(Make.of(z, 6, 1), two, true);
        sentences.due("not by facts alone", false, z::clashes);
        z.fact(0, 1, true);
        sentences.due("by what follows", true, z::clashes);
    }

    private void clashByDepth() {
        by("or if a term is one with a term that stands in it (at any depth) below builders alone, "
                + "counted through what is one:");
        CongruenceRows x = Make.chain(true);
        sentences.due("without facts, sixty deep", false, x::clashes);
        for (int t = 1; t < 60; t++) {
            x.fact(0, t, true);
            sentences.due("depth " + t, true, x::clashes);
            x.undo();
        }
        for (int gap = 1; gap < 60; gap++) {
            CongruenceRows y = new CongruenceRows();
            y.builder(1);
            Make.plain(y, 0);
            for (int t = 1; t < 60; t++) {
                Make.of(y, t == gap ? 2 : 1, t - 1);
            }
            y.fact(59, 0, true);
            sentences.due("one that is no builder, at " + gap, false, y::clashes);
        }
        CongruenceRows z = new CongruenceRows();
        z.builder(1);
        Make.plain(z, 0);
        int aside = Make.of(z, 2, 0);
        z.fact(z.term(1, aside, aside, aside), 0, true);
        sentences.due("in no place below builders alone", false, z::clashes);
        z.undo();
        z.fact(z.term(1, aside, aside, 0), 0, true);
        sentences.due("in one place of three", true, z::clashes);
        z.undo();
        z.fact(aside, 0, true);
        sentences.due("in a term that is no builder's", false, z::clashes);
    }

    private void belowATerm() {
        by("a term BELOW a term t is one that is one with a term in a place of a builder's term "
                + "that is one with t, or below such a one.");
        CongruenceRows x = ring();
        for (int f = 0; f < 29; f++) {
            x.fact(30 + f, f + 1, true);
        }
        sentences.due("a ring that is open", false, x::clashes);
        sentences.due("closed by one more", true, () -> x.isOther(59, 0));
        x.fact(59, 0, true);
        sentences.due("a ring of thirty", true, x::clashes);
        sentences.due("by all of it", (1L << 30) - 1, x::clash);
        sentences.due("thirty rows", 30, () -> x.row(0, 3));
        for (int place = 0; place < 3; place++) {
            CongruenceRows y = new CongruenceRows();
            y.builder(3);
            for (int sign = 0; sign < 3; sign++) {
                Make.plain(y, sign);
            }
            int built = y.term(3, place == 0 ? 0 : 2, place == 1 ? 0 : 2, place == 2 ? 0 : 2);
            y.fact(built, 1, true);
            sentences.due("place " + (place + 1) + ", not yet", false, y::clashes);
            y.fact(1, 0, true);
            sentences.due("place " + (place + 1) + ", through what is one", true, y::clashes);
        }
        CongruenceRows z = new CongruenceRows();
        z.builder(0);
        z.builder(1);
        int leaf = Make.plain(z, 0);
        int other = Make.plain(z, 2);
        int over = Make.of(z, 1, leaf);
        z.fact(leaf, other, true);
        sentences.due("a builder without places has none below", false, z::clashes);
        z.fact(Make.of(z, 3, over), over, true);
        sentences.due("nor has one that is no builder", false, z::clashes);
    }

    /** Terms 0 .. 29 that nothing makes one, and 30 .. 59: a builder's term for each of these. */
    private static CongruenceRows ring() {
        CongruenceRows x = new CongruenceRows();
        x.builder(7);
        for (int sign = 0; sign < 6; sign++) {
            Make.plain(x, sign);
        }
        for (int t = 6; t < 30; t++) {
            Make.of(x, 6, t / 6, t % 6);
        }
        for (int t = 30; t < 60; t++) {
            Make.of(x, 7, t - 30);
        }
        return x;
    }

    private void fromTheLastToTheFirst() {
        by("The REASON of two terms that all facts make one (of a clash): "
                + "the facts are gone through from the last to the first;");
        CongruenceRows x = Make.sixPlain();
        Make.repeat(x, 40, 0, 1, true);
        sentences.due("of forty alike the first", 1, () -> x.reason(0, 1));
        CongruenceRows y = Make.sixPlain();
        Make.repeat(y, 40, 3, 3, false);
        sentences.due("of forty clashes the first", 1, y::clash);
        CongruenceRows z = Make.sixPlain();
        z.fact(0, 1, true);
        z.fact(1, 2, true);
        z.fact(2, 3, true);
        z.fact(0, 3, true);
        sentences.due("three ahead, not the one behind", 7, () -> z.reason(0, 3));
        z.fact(0, 3, false);
        sentences.due("and so for the clash", 16 + 7, z::clash);
        z.fact(4, 4, false);
        sentences.due("though a later one is shorter", 16 + 7, z::clash);
    }

    private void keptSoFarAndAhead() {
        by("each is left out if those that are kept so far and those ahead of it "
                + "still make them one (still clash);");
        CongruenceRows x = Make.sixPlain();
        x.fact(0, 3, true);
        x.fact(0, 2, true);
        x.fact(3, 1, true);
        x.fact(2, 1, true);
        sentences.due("kept: 2, so 1 is left out", 5, () -> x.reason(0, 1));
        sentences.due("the other two", 3, () -> x.reason(2, 3));
        sentences.due("one behind only", 4, () -> x.reason(1, 3));
        CongruenceRows y = Make.sixPlain();
        y.fact(0, 3, true);
        y.fact(0, 1, false);
        y.fact(0, 2, true);
        y.fact(3, 1, true);
        y.fact(2, 1, true);
        y.fact(1, 0, false);
        sentences.due("of two OTHERs the one ahead", 1 + 2 + 8, y::clash);
        CongruenceRows z = Make.sixPlain();
        z.fact(0, 1, true);
        z.fact(4, 5, true);
        z.fact(1, 2, true);
        sentences.due("one in the middle that does nothing", 5, () -> z.reason(0, 2));
    }

    private void keptAreTheReason() {
        by("those that are kept are the reason.");
        CongruenceRows x = Make.sixtyApart();
        for (int f = 0; f < 40; f++) {
            x.fact(f + 10, f + 11, true);
        }
        sentences.due("all forty", ALL_FACTS, () -> x.reason(10, 50));
        sentences.due("none", 0, () -> x.reason(50, 50));
        for (int f = 0; f < 40; f++) {
            int left = f + 10;
            sentences.due("fact " + f + " alone", 1L << f, () -> x.reason(left, left + 1));
        }
        CongruenceRows y = Make.sixtyApart();
        y.fact(49, 10, false);
        for (int f = 0; f < 39; f++) {
            y.fact(f + 10, f + 11, true);
        }
        sentences.due("all forty of a clash", ALL_FACTS, y::clash);
    }
}
