import java.util.List;
import java.util.function.Consumer;

/** Counts the answers that are not the ones that are due. */
final class Check {
    private int wrong = 0;
    private String part = "";

    /** Names what is checked from here on. */
    void part(String name) {
        part = name;
    }

    void same(String call, long got, long want) {
        if (got != want) {
            tell(call + " answered " + got + ", due is " + want);
        }
    }

    void yes(String what, boolean holds) {
        if (!holds) {
            tell(what + " does not hold");
        }
    }

    void refused(String call, Class<? extends RuntimeException> want, Runnable run) {
        threw(call, thrownBy(run), want);
    }

    /** The call is refused in the state, and nothing has changed behind it. */
    void refused(String call, Class<? extends RuntimeException> want, State state, Consumer<SelfArranger> run) {
        threw(state + ": " + call, thrownBy(() -> run.accept(state.make())), want);
        unchanged(call, state, run);
    }

    /** The call is taken in the state, and nothing has changed behind it. */
    void changesNothing(String call, State state, Consumer<SelfArranger> run) {
        taken(call, state, run);
        unchanged(call, state, run);
    }

    void taken(String call, State state, Consumer<SelfArranger> run) {
        threw(state + ": " + call, thrownBy(() -> run.accept(state.make())), null);
    }

    /** Ends the program: with 1 if an answer was wrong. */
    void end() {
        System.out.println(wrong == 0 ? "all answers are as due" : wrong + " answers are not as due");
        System.exit(wrong == 0 ? 0 : 1);
    }

    private static Class<?> thrownBy(Runnable run) {
        try {
            run.run();
            return null;
        } catch (RuntimeException e) {
            return e.getClass();
        }
    }

    private void threw(String call, Class<?> got, Class<?> want) {
        if (got != want) {
            tell(call + " threw " + name(got) + ", due is " + name(want));
        }
    }

    private static String name(Class<?> thrown) {
        return thrown == null ? "nothing" : thrown.getSimpleName();
    }

    private void unchanged(String call, State state, Consumer<SelfArranger> run) {
        List<String> got = Probe.seen(behind(state, run));
        List<String> want = Probe.seen(state.make());
        for (int k = 0; k < Probe.BEGINNINGS; k++) {
            got.addAll(Probe.hidden(behind(state, run), k));
            want.addAll(Probe.hidden(state.make(), k));
        }
        for (int k = 0; k < want.size(); k++) {
            String seen = k < got.size() ? got.get(k) : "nothing";
            if (!seen.equals(want.get(k))) {
                tell(state + ": behind " + call + " is " + seen + ", due is " + want.get(k));
                return;
            }
        }
    }

    /** An object in the state, behind the call. */
    private static SelfArranger behind(State state, Consumer<SelfArranger> run) {
        SelfArranger x = state.make();
        thrownBy(() -> run.accept(x));
        return x;
    }

    private void tell(String text) {
        wrong++;
        System.out.println(part + ": " + text);
    }
}
