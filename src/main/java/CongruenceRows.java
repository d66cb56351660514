/**
 * Terms that are the same by facts and by what they are made of: which follow,
 * which can't be, and by which facts.
 *
 * Sets of terms, and of facts, are the bits of a long: there are never more than 60 of either.
 */
public final class CongruenceRows {
    public static final int NONE = -1;

    private static final int MOST_SIGNS = 16;
    private static final int MOST_TERMS = 60;
    private static final int MOST_FACTS = 40;

    /** Far above need: at most 59 joins stand in one set of rows, and each asks for at most 60 looks. */
    private static final int MOST_LOOKS = 100000;

    private final Terms terms;
    private final Facts facts;
    /** The rows that no fact makes: each term by itself. Kept so that a question starts with a copy. */
    private final Rows apart;
    /** The rows of the question that is being answered, made anew for each. */
    private final Rows rows;

    public CongruenceRows() {
        terms = new Terms();
        facts = new Facts();
        apart = new Rows(terms);
        rows = new Rows(terms);
    }

    public void builder(int sign) throws IndexOutOfBoundsException, IllegalStateException {
        if (!isSign(sign)) {
            throw new IndexOutOfBoundsException("no such sign");
        }
        if (terms.placesOf[sign] != NONE) {
            throw new IllegalStateException("the sign has been used");
        }
        terms.builds[sign] = true;
    }

    public int term(int sign, int a, int b, int c)
            throws IndexOutOfBoundsException, IllegalArgumentException, IllegalStateException {
        int second = a == NONE ? NONE : b;
        int third = second == NONE ? NONE : c;
        if (!isSign(sign) || !isPlace(a) || !isPlace(second) || !isPlace(third)) {
            throw new IndexOutOfBoundsException("no such sign, or term");
        }
        int used = terms.placesOf[sign];
        if (used != NONE && used != countPlaces(a, second, third)) {
            throw new IllegalArgumentException("the sign was used with more or fewer places");
        }
        int known = leastOf(apart.alike(sign, a, second, third));
        if (known != NONE) {
            return known;
        }
        if (terms.count >= MOST_TERMS) {
            throw new IllegalStateException("there are 60 terms");
        }
        int made = terms.count;
        terms.add(sign, a, second, third);
        terms.placesOf[sign] = countPlaces(a, second, third);
        apart.addAlone(made);
        return made;
    }

    public int part(int t, int what) {
        if (!isTerm(t)) {
            return NONE;
        }
        switch (what) {
            case 0:
                return terms.signs[t];
            case 1:
                return terms.firsts[t];
            case 2:
                return terms.seconds[t];
            case 3:
                return terms.thirds[t];
            case 4:
                return Long.bitCount(terms.inside[t]);
            default:
                return NONE;
        }
    }

    public int fact(int a, int b, boolean same) throws IndexOutOfBoundsException, IllegalStateException {
        requireTerms(a, b);
        if (facts.count >= MOST_FACTS) {
            throw new IllegalStateException("there are 40 facts");
        }
        int made = facts.count;
        facts.add(a, b, same);
        return made;
    }

    public boolean undo() {
        if (facts.count == 0) {
            return false;
        }
        facts.count--;
        return true;
    }

    public boolean isOne(int a, int b) throws IndexOutOfBoundsException {
        requireTerms(a, b);
        gather(facts.all());
        return rows.areOne(a, b);
    }

    public boolean clashes() {
        long all = facts.all();
        gather(all);
        return isBroken(all);
    }

    public boolean isOther(int a, int b) throws IndexOutOfBoundsException {
        requireTerms(a, b);
        long all = facts.all();
        gather(all);
        rows.makeOne(a, b);
        return isBroken(all);
    }

    public int row(int t, int what) throws IndexOutOfBoundsException {
        requireTerms(t, t);
        gather(facts.all());
        long members = rows.members[rows.names[t]];
        switch (what) {
            case 0:
                return leastOf(members);
            case 1:
                return Long.bitCount(members);
            case 2:
                return leastOf(members & terms.built);
            case 3:
                return rows.countRows();
            default:
                return NONE;
        }
    }

    public long reason(int a, int b) throws IndexOutOfBoundsException {
        requireTerms(a, b);
        return reasonOf(a, b);
    }

    public long clash() {
        return reasonOf(NONE, NONE);
    }

    public long idle() {
        long found = 0;
        rows.copyFrom(apart);
        for (int f = 0; f < facts.count; f++) {
            if (facts.sames[f] && !rows.makeOne(facts.lefts[f], facts.rights[f])) {
                found |= 1L << f;
            }
        }
        return found;
    }

    public int about(int what) {
        switch (what) {
            case 0:
                return terms.count;
            case 1:
                return facts.count;
            case 2:
                return terms.countUsedSigns();
            default:
                return NONE;
        }
    }

    private boolean isSign(int sign) {
        return sign >= 0 && sign < MOST_SIGNS;
    }

    private boolean isTerm(int t) {
        return t >= 0 && t < terms.count;
    }

    private boolean isPlace(int t) {
        return t == NONE || isTerm(t);
    }

    private void requireTerms(int a, int b) {
        if (!isTerm(a) || !isTerm(b)) {
            throw new IndexOutOfBoundsException("no such term");
        }
    }

    private static int leastOf(long set) {
        return set == 0 ? NONE : Long.numberOfTrailingZeros(set);
    }

    private static int countPlaces(int first, int second, int third) {
        if (first == NONE) {
            return 0;
        }
        if (second == NONE) {
            return 1;
        }
        return third == NONE ? 2 : 3;
    }

    /** Makes the rows that a set of facts makes. */
    private void gather(long set) {
        rows.copyFrom(apart);
        for (int f = 0; f < facts.count; f++) {
            if (facts.sames[f] && (set >> f & 1) != 0) {
                rows.makeOne(facts.lefts[f], facts.rights[f]);
            }
        }
    }

    /** Adds a fact to the rows: false if it can have changed nothing. */
    private boolean putIn(int f) {
        return !facts.sames[f] || rows.makeOne(facts.lefts[f], facts.rights[f]);
    }

    /** Whether the rows, which a set of facts has made, clash. */
    private boolean isBroken(long set) {
        return rows.mixed || isOtherBroken(set) || rows.hasLoop();
    }

    private boolean isOtherBroken(long set) {
        for (int f = 0; f < facts.count; f++) {
            if (!facts.sames[f] && (set >> f & 1) != 0 && rows.areOne(facts.lefts[f], facts.rights[f])) {
                return true;
            }
        }
        return false;
    }

    /** Whether the rows, which a set of facts has made, have a and b as one; with NONE for a: clash. */
    private boolean isReached(long set, int a, int b) {
        return a == NONE ? isBroken(set) : rows.areOne(a, b);
    }

    /**
     * The REASON of a and b, or with NONE for a that of the clash; NONE without one.
     *
     * More facts never make fewer terms one, so going back from the last fact the next one that
     * must be kept is the last of the fewest ahead that are enough: one way through the facts
     * finds it, where leaving out each in turn would make the rows anew for every fact.
     */
    private long reasonOf(int a, int b) {
        long kept = 0;
        int ahead = facts.count;
        for (int way = 0; way <= MOST_FACTS; way++) {
            int enough = fewestAhead(kept, ahead, a, b);
            if (enough == NONE) {
                return NONE;
            }
            if (enough == 0) {
                return kept;
            }
            ahead = enough - 1;
            kept |= 1L << ahead;
        }
        return kept;
    }

    /** How many of the first facts, at most ahead, are enough beside the kept ones; NONE if all are not. */
    private int fewestAhead(long kept, int ahead, int a, int b) {
        gather(kept);
        if (isReached(kept, a, b)) {
            return 0;
        }
        long put = kept;
        for (int f = 0; f < ahead; f++) {
            put |= 1L << f;
            if (putIn(f) && isReached(put, a, b)) {
                return f + 1;
            }
        }
        return NONE;
    }

    /** The signs, and the terms made with them. */
    private static final class Terms {
        /** How many places a sign has; NONE while it is not used. */
        final int[] placesOf = new int[MOST_SIGNS];
        final boolean[] builds = new boolean[MOST_SIGNS];
        /** The terms of each sign. */
        final long[] ofSign = new long[MOST_SIGNS];
        final int[] signs = new int[MOST_TERMS];
        final int[] firsts = new int[MOST_TERMS];
        final int[] seconds = new int[MOST_TERMS];
        final int[] thirds = new int[MOST_TERMS];
        /** The terms that stand in each, itself with them. */
        final long[] inside = new long[MOST_TERMS];
        /** The terms whose signs are builders. */
        long built;
        int count;

        Terms() {
            for (int s = 0; s < MOST_SIGNS; s++) {
                placesOf[s] = NONE;
            }
        }

        void add(int sign, int first, int second, int third) {
            int t = count;
            signs[t] = sign;
            firsts[t] = first;
            seconds[t] = second;
            thirds[t] = third;
            inside[t] = 1L << t | insideOf(first) | insideOf(second) | insideOf(third);
            ofSign[sign] |= 1L << t;
            if (builds[sign]) {
                built |= 1L << t;
            }
            count++;
        }

        long insideOf(int place) {
            return place == NONE ? 0 : inside[place];
        }

        boolean isBuilt(int t) {
            return (built >> t & 1) != 0;
        }

        int countUsedSigns() {
            int used = 0;
            for (int s = 0; s < MOST_SIGNS; s++) {
                if (placesOf[s] != NONE) {
                    used++;
                }
            }
            return used;
        }
    }

    /** The facts, in the order of their numbers. */
    private static final class Facts {
        final int[] lefts = new int[MOST_FACTS];
        final int[] rights = new int[MOST_FACTS];
        final boolean[] sames = new boolean[MOST_FACTS];
        int count;

        void add(int left, int right, boolean same) {
            lefts[count] = left;
            rights[count] = right;
            sames[count] = same;
            count++;
        }

        long all() {
            return (1L << count) - 1;
        }
    }

    /** All terms in rows: those of a row are one. What is held by row stands at the row's name. */
    private static final class Rows {
        final Terms terms;
        /** The name of each term's row: the number of one of the row's terms. */
        final int[] names = new int[MOST_TERMS];
        final long[] members = new long[MOST_TERMS];
        /** The terms that have one of the row in their first, second, third place. */
        final long[] firstUsers = new long[MOST_TERMS];
        final long[] secondUsers = new long[MOST_TERMS];
        final long[] thirdUsers = new long[MOST_TERMS];
        /** The terms in places of the row's builders' terms. */
        final long[] below = new long[MOST_TERMS];
        /** A builder among the row's signs; NONE without. */
        final int[] builders = new int[MOST_TERMS];
        /** The terms whose row, or whose places' rows, have grown since they were last looked at. */
        long unseen;
        /** Whether two builders stand in one row. */
        boolean mixed;

        Rows(Terms terms) {
            this.terms = terms;
        }

        void addAlone(int t) {
            boolean isBuilt = terms.isBuilt(t);
            names[t] = t;
            members[t] = 1L << t;
            builders[t] = isBuilt ? terms.signs[t] : NONE;
            use(firstUsers, terms.firsts[t], t);
            use(secondUsers, terms.seconds[t], t);
            use(thirdUsers, terms.thirds[t], t);
            if (isBuilt) {
                below[t] = bitOf(terms.firsts[t]) | bitOf(terms.seconds[t]) | bitOf(terms.thirds[t]);
            }
        }

        static void use(long[] users, int place, int t) {
            if (place != NONE) {
                users[place] |= 1L << t;
            }
        }

        static long bitOf(int place) {
            return place == NONE ? 0 : 1L << place;
        }

        void copyFrom(Rows other) {
            int count = terms.count;
            System.arraycopy(other.names, 0, names, 0, count);
            System.arraycopy(other.members, 0, members, 0, count);
            System.arraycopy(other.firstUsers, 0, firstUsers, 0, count);
            System.arraycopy(other.secondUsers, 0, secondUsers, 0, count);
            System.arraycopy(other.thirdUsers, 0, thirdUsers, 0, count);
            System.arraycopy(other.below, 0, below, 0, count);
            System.arraycopy(other.builders, 0, builders, 0, count);
            unseen = other.unseen;
            mixed = other.mixed;
        }

        boolean areOne(int a, int b) {
            return names[a] == names[b];
        }

        /** Makes two terms one, with all that follows: false if they were one. */
        boolean makeOne(int a, int b) {
            if (areOne(a, b)) {
                return false;
            }
            join(a, b);
            for (int look = 0; look < MOST_LOOKS && unseen != 0; look++) {
                int t = Long.numberOfTrailingZeros(unseen);
                unseen &= unseen - 1;
                joinAlike(t);
                if (terms.isBuilt(t)) {
                    joinPlaces(t);
                }
            }
            return true;
        }

        /** Of terms alike each is joined with the least, so that none is left out, in whatever order. */
        void joinAlike(int t) {
            long found = alike(terms.signs[t], terms.firsts[t], terms.seconds[t], terms.thirds[t]);
            join(t, leastOf(found));
        }

        /** The terms of a sign whose places' terms are one with these. */
        long alike(int sign, int first, int second, int third) {
            long found = terms.ofSign[sign];
            if (first != NONE) {
                found &= firstUsers[names[first]];
            }
            if (second != NONE) {
                found &= secondUsers[names[second]];
            }
            if (third != NONE) {
                found &= thirdUsers[names[third]];
            }
            return found;
        }

        /** Of one row's terms of one builder each has its places joined with those of the least. */
        void joinPlaces(int t) {
            int least = leastOf(members[names[t]] & terms.ofSign[terms.signs[t]]);
            if (least == NONE || least == t) {
                return;
            }
            join(terms.firsts[t], terms.firsts[least]);
            join(terms.seconds[t], terms.seconds[least]);
            join(terms.thirds[t], terms.thirds[least]);
        }

        /** Puts two terms' rows together, without what follows; a NONE stands for a place that is not there. */
        void join(int a, int b) {
            if (a == NONE || b == NONE) {
                return;
            }
            boolean isLarger = Long.bitCount(members[names[a]]) >= Long.bitCount(members[names[b]]);
            int kept = isLarger ? names[a] : names[b];
            int gone = isLarger ? names[b] : names[a];
            if (kept == gone) {
                return;
            }
            long moved = members[gone];
            for (int left = Long.bitCount(moved); left > 0; left--) {
                names[Long.numberOfTrailingZeros(moved)] = kept;
                moved &= moved - 1;
            }
            members[kept] |= members[gone];
            firstUsers[kept] |= firstUsers[gone];
            secondUsers[kept] |= secondUsers[gone];
            thirdUsers[kept] |= thirdUsers[gone];
            below[kept] |= below[gone];
            unseen |= firstUsers[kept] | secondUsers[kept] | thirdUsers[kept] | members[kept] & terms.built;
            joinBuilders(kept, gone);
        }

        void joinBuilders(int kept, int gone) {
            if (builders[kept] == NONE) {
                builders[kept] = builders[gone];
            } else if (builders[gone] != NONE && builders[gone] != builders[kept]) {
                mixed = true;
            }
        }

        int countRows() {
            int found = 0;
            for (int t = 0; t < terms.count; t++) {
                if (names[t] == t) {
                    found++;
                }
            }
            return found;
        }

        /** Whether a term is below itself: then some rows never have all that is below them cleared. */
        boolean hasLoop() {
            long all = (1L << terms.count) - 1;
            long clear = 0;
            for (int way = 0; way <= MOST_TERMS && clear != all; way++) {
                long more = clearMore(clear);
                if (more == clear) {
                    return true;
                }
                clear = more;
            }
            return false;
        }

        long clearMore(long clear) {
            long cleared = clear;
            for (int t = 0; t < terms.count; t++) {
                if (names[t] == t && (below[t] & ~cleared) == 0) {
                    cleared |= members[t];
                }
            }
            return cleared;
        }
    }
}
