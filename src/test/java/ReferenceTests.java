/** Long runs of calls of all kinds, wrong inputs with them, each answer held against Reference. */
public final class ReferenceTests {
    private static final int CALLS = 512;

    private final Check check = new Check();
    private long seed;

    public static void main(String[] args) {
        ReferenceTests tests = new ReferenceTests();
        for (int run = 1; run <= 400 && !tests.check.hasFailed(); run++) {
            tests.seed = run;
            tests.playRun(run);
        }
        tests.check.end();
    }

    /** A row of numbers that is the same every time, so that a fault that is found is found again. */
    private int next(int bound) {
        seed = seed * 6364136223846793005L + 1442695040888963407L;
        return (int) ((seed >>> 33) % bound);
    }

    private void playRun(int run) {
        CongruenceRows made = new CongruenceRows();
        Reference due = new Reference();
        int mostTerms = run % 20 == 0 ? 63 : 4 + next(24);
        int signs = 2 + next(7);
        int sames = 40 + next(60);
        int wrong = next(3) == 0 ? 12 : 100;
        for (int b = next(signs + 1); b > 0; b--) {
            int sign = next(signs);
            both("builder(" + sign + ")", () -> builder(made, sign), () -> builder(due, sign));
        }
        int calls = run % 20 == 0 ? CALLS / 2 : CALLS - signs;
        for (int call = 0; call < calls && !check.hasFailed(); call++) {
            if (next(wrong) == 0) {
                callAny(made, due, run);
            } else if (due.about(0) < mostTerms && next(3) != 0) {
                callTerm(made, due, next(signs), signs);
            } else {
                callMore(made, due, sames);
            }
        }
    }

    private static Object builder(CongruenceRows x, int sign) {
        x.builder(sign);
        return "nothing";
    }

    private static Object builder(Reference x, int sign) {
        x.builder(sign);
        return "nothing";
    }

    private void both(String call, Check.Call made, Check.Call due) {
        check.due(call, Check.answer(due), made);
    }

    /** A number that is mostly a term's, of the later ones more often than not. */
    private int anyTerm(Reference due) {
        int count = due.about(0);
        if (count == 0) {
            return next(3) - 1;
        }
        return next(2) == 0 ? next(count) : Math.max(0, count - 1 - next(4));
    }

    /** Signs 0, 3, 6 .. have no place, 1, 4, 7 .. have one, the rest have two or, the last, three. */
    private void callTerm(CongruenceRows made, Reference due, int sign, int signs) {
        int kind = sign % 3 == 2 && sign == signs - 1 ? 3 : sign % 3;
        int a = kind > 0 ? anyTerm(due) : -1;
        int b = kind > 1 ? anyTerm(due) : -1;
        int c = kind > 2 ? anyTerm(due) : -1;
        both("term(" + sign + ", " + a + ", " + b + ", " + c + ")",
                () -> made.term(sign, a, b, c), () -> due.term(sign, a, b, c));
    }

    private void callMore(CongruenceRows made, Reference due, int sames) {
        int a = anyTerm(due);
        int b = anyTerm(due);
        int what = next(5);
        boolean same = next(100) < sames;
        String two = "(" + a + ", " + b + ")";
        switch (next(14)) {
            case 0, 1, 2, 3 -> both("fact" + two + same, () -> made.fact(a, b, same), () -> due.fact(a, b, same));
            case 4 -> both("undo()", made::undo, due::undo);
            case 5 -> both("isOne" + two, () -> made.isOne(a, b), () -> due.isOne(a, b));
            case 6 -> both("clashes()", made::clashes, due::clashes);
            case 7 -> both("isOther" + two, () -> made.isOther(a, b), () -> due.isOther(a, b));
            case 8 -> both("row(" + a + ", " + what + ")", () -> made.row(a, what), () -> due.row(a, what));
            case 9 -> both("reason" + two, () -> made.reason(a, b), () -> due.reason(a, b));
            case 10 -> both("clash()", made::clash, due::clash);
            case 11 -> both("idle()", made::idle, due::idle);
            case 12 -> both("about(" + what + ")", () -> made.about(what), () -> due.about(what));
            default -> both("part(" + a + ", " + what + ")", () -> made.part(a, what), () -> due.part(a, what));
        }
    }

    private int odd(int run) {
        int[] numbers = {-2, -1, 0, 1, 2, 3, 4, 5, 15, 16, 59, 60, 61, 64, Integer.MIN_VALUE, Integer.MAX_VALUE};
        return next(2) == 0 ? next(5 + run % 20) - 2 : numbers[next(numbers.length)];
    }

    /** Any call with any numbers. */
    private void callAny(CongruenceRows made, Reference due, int run) {
        int s = odd(run);
        int a = odd(run);
        int b = odd(run);
        int c = odd(run);
        String two = "(" + a + ", " + b + ")";
        switch (next(8)) {
            case 0 -> both("builder(" + s + ")", () -> builder(made, s), () -> builder(due, s));
            case 1 -> both("term(" + s + ", " + a + ", " + b + ", " + c + ")",
                    () -> made.term(s, a, b, c), () -> due.term(s, a, b, c));
            case 2 -> both("part" + two, () -> made.part(a, b), () -> due.part(a, b));
            case 3 -> both("fact" + two, () -> made.fact(a, b, true), () -> due.fact(a, b, true));
            case 4 -> both("row" + two, () -> made.row(a, b), () -> due.row(a, b));
            case 5 -> both("reason" + two, () -> made.reason(a, b), () -> due.reason(a, b));
            case 6 -> both("isOther" + two, () -> made.isOther(a, b), () -> due.isOther(a, b));
            default -> both("about(" + a + ")", () -> made.about(a), () -> due.about(a));
        }
    }
}
