/** Counts answers that are due, and tells those that are not as due. */
final class Check {
    /** A call of which the answer, or the exception, is looked at. */
    interface Call {
        Object make();
    }

    private int passed;
    private int failed;

    /** The answer as a text; a number alike as int and as long. */
    static String answer(Call call) {
        try {
            return String.valueOf(call.make());
        } catch (RuntimeException e) {
            return "throws." + e.getClass().getSimpleName();
        }
    }

    void due(String what, Object want, Call call) {
        String got = answer(call);
        if (got.equals(String.valueOf(want))) {
            passed++;
        } else {
            failed++;
            System.out.println(what + " answered " + got + ", due is " + want);
        }
    }

    boolean hasFailed() {
        return failed != 0;
    }

    void end() {
        System.out.println(passed + " passed, " + failed + " failed");
        if (failed != 0) {
            System.exit(1);
        }
    }
}
