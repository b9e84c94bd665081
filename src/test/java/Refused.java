/**
 * Checks of calls that throw. Each is asked of a new object in the same state, that must answer
 * afterwards as one of which the call was not asked: when a call throws, nothing has changed.
 */
final class Refused {
    interface Making {
        GuessMarks make();
    }

    interface Asking {
        Object ask(GuessMarks x);
    }

    private final String state;
    private final Making making;
    private final String unchanged;

    Refused(String state, Making making) {
        this.state = state;
        this.making = making;
        unchanged = State.of(making.make());
    }

    void noIndex(String call, Asking asking) {
        refused(call, "java.lang.IndexOutOfBoundsException", asking);
    }

    void badArgument(String call, Asking asking) {
        refused(call, "java.lang.IllegalArgumentException", asking);
    }

    void badState(String call, Asking asking) {
        refused(call, "java.lang.IllegalStateException", asking);
    }

    private void refused(String call, String due, Asking asking) {
        GuessMarks x = making.make();
        String name = call + ", " + state;
        Check.same(name, due, Check.outcome(() -> answered(asking.ask(x))));
        Check.same("the state after " + name, unchanged, State.of(x));
    }

    private static long answered(Object answer) {
        if (answer instanceof Boolean) {
            return (Boolean) answer ? 1 : 0;
        }
        return (Integer) answer;
    }
}
