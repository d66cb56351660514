/** What tests make: terms, objects that are full, and all that an object answers as one text. */
final class Make {
    static final int NONE = -1;
    static final String BOUNDS = "throws.IndexOutOfBoundsException";
    static final String STATE = "throws.IllegalStateException";
    static final String ARGUMENT = "throws.IllegalArgumentException";

    private Make() {
    }

    static Object builder(CongruenceRows x, int sign) {
        x.builder(sign);
        return "nothing";
    }

    static int plain(CongruenceRows x, int sign) {
        return x.term(sign, NONE, NONE, NONE);
    }

    static int of(CongruenceRows x, int sign, int a) {
        return x.term(sign, a, NONE, NONE);
    }

    static int of(CongruenceRows x, int sign, int a, int b) {
        return x.term(sign, a, b, NONE);
    }

    /** A term with so many places, the same term in each. */
    static int ofMany(CongruenceRows x, int sign, int places, int t) {
        return x.term(sign, places > 0 ? t : NONE, places > 1 ? t : NONE, places > 2 ? t : NONE);
    }

    /** Signs 0 .. 5 without places: terms 0 .. 5. */
    static CongruenceRows sixPlain() {
        CongruenceRows x = new CongruenceRows();
        for (int sign = 0; sign < 6; sign++) {
            plain(x, sign);
        }
        return x;
    }

    /** Terms 0 .. 9 without places, and 50 of sign 10 and two of these each, so that none follow. */
    static CongruenceRows sixtyApart() {
        CongruenceRows x = new CongruenceRows();
        for (int sign = 0; sign < 10; sign++) {
            plain(x, sign);
        }
        for (int t = 10; t < 60; t++) {
            of(x, 10, t / 10, t % 10);
        }
        return x;
    }

    /** Term 0 of sign 0, and 59 of sign 1, each with the one ahead of it in its place. */
    static CongruenceRows chain(boolean isBuilder) {
        CongruenceRows x = new CongruenceRows();
        if (isBuilder) {
            x.builder(1);
        }
        plain(x, 0);
        for (int t = 1; t < 60; t++) {
            of(x, 1, t - 1);
        }
        return x;
    }

    /** The same fact again and again. */
    static void repeat(CongruenceRows x, int times, int a, int b, boolean same) {
        for (int time = 0; time < times; time++) {
            x.fact(a, b, same);
        }
    }

    /** Numbers that are no term's, those that wrap to a term's as a bit or as a smaller number with them. */
    static int[] noTerms(CongruenceRows x) {
        return new int[] {NONE, -2, -60, -64, x.about(0), 60, 61, 64, 65, 128, 256, 65536,
            Integer.MIN_VALUE, Integer.MAX_VALUE};
    }

    /** All that an object of few terms answers: 5 calls, and 9 for each term. */
    static String state(CongruenceRows x) {
        StringBuilder text = new StringBuilder();
        int terms = x.about(0);
        text.append(terms).append(' ').append(x.about(1)).append(' ').append(x.about(2));
        for (int t = 0; t < terms; t++) {
            text.append(" |");
            for (int what = 0; what < 5; what++) {
                text.append(' ').append(x.part(t, what));
            }
            for (int what = 0; what < 4; what++) {
                text.append(' ').append(x.row(t, what));
            }
        }
        return text.append(" | ").append(x.clash()).append(' ').append(x.idle()).toString();
    }
}
