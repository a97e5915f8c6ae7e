/** Counts the answers that are not the ones that are due. */
final class Check {
    private int wrong = 0;
    private String part = "";

    /** Names what is checked from here on. */
    void part(String name) {
        part = name;
    }

    void same(String call, long got, long want) {
        if (got != want) {
            tell(call + " answered " + got + ", due is " + want);
        }
    }

    void yes(String what, boolean holds) {
        if (!holds) {
            tell(what + " does not hold");
        }
    }

    void refused(String call, Class<? extends RuntimeException> want, Runnable run) {
        Class<?> got = null;
        try {
            run.run();
        } catch (RuntimeException e) {
            got = e.getClass();
        }
        if (got != want) {
            tell(call + " threw " + (got == null ? "nothing" : got.getSimpleName())
                    + ", due is " + want.getSimpleName());
        }
    }

    /** Ends the program: with 1 if an answer was wrong. */
    void end() {
        System.out.println(wrong == 0 ? "all answers are as due" : wrong + " answers are not as due");
        System.exit(wrong == 0 ? 0 : 1);
    }

    private void tell(String text) {
        wrong++;
        System.out.println(part + ": " + text);
    }
}
