/** Counts the answers of one test that are not the ones that are due. */
final class Check {
    /** A call that is expected to throw; run() makes it. */
    interface Call {
        long run();
    }

    private int wrong = 0;
    private int made = 0;

    void due(String call, long got, long want) {
        made++;
        if (got != want) {
            wrong++;
            System.out.println(call + " answered " + got + ", due is " + want);
        }
    }

    void holds(String what, boolean holds) {
        due(what, holds ? 1 : 0, 1);
    }

    void noSuch(String call, Call made) {
        throwsDue(call, made, IllegalArgumentException.class);
    }

    void notNow(String call, Call made) {
        throwsDue(call, made, IllegalStateException.class);
    }

    private void throwsDue(String call, Call made, Class<? extends RuntimeException> want) {
        Class<?> got = null;
        try {
            made.run();
        } catch (RuntimeException e) {
            got = e.getClass();
        }
        holds(call + " threw " + got + ", due is " + want, got == want);
    }

    /** Ends the test: with 1 if an answer was wrong, or if none was looked at. */
    void end() {
        System.out.println(wrong == 0 ? made + " answers as due" : wrong + " of " + made + " answers not as due");
        if (wrong != 0 || made == 0) {
            System.exit(1);
        }
    }
}
