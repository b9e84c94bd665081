/** Counts the calls whose answer is not the one that is due, and tells them. */
final class Check {
    interface Call {
        long answer();
    }

    interface Question {
        boolean answer();
    }

    private static final Class<IndexOutOfBoundsException> NO_INDEX = IndexOutOfBoundsException.class;
    private static final Class<IllegalArgumentException> BAD_ARGUMENT = IllegalArgumentException.class;
    private static final Class<IllegalStateException> BAD_STATE = IllegalStateException.class;

    private static int wrong = 0;
    private static String sentence = "";

    private Check() {
    }

    /** The document's words that the next checks are about; they stand ahead of what these tell. */
    static void sentence(String words) {
        sentence = "[" + words + "] ";
    }

    static void due(String call, long due, Call made) {
        same(call, Long.toString(due), outcome(made));
    }

    static void yes(String call, Question made) {
        same(call, "1", outcome(() -> made.answer() ? 1 : 0));
    }

    static void no(String call, Question made) {
        same(call, "0", outcome(() -> made.answer() ? 1 : 0));
    }

    static void noIndex(String call, Call made) {
        same(call, NO_INDEX.getName(), outcome(made));
    }

    static void badArgument(String call, Call made) {
        same(call, BAD_ARGUMENT.getName(), outcome(made));
    }

    static void badState(String call, Call made) {
        same(call, BAD_STATE.getName(), outcome(made));
    }

    static void same(String what, String due, String got) {
        if (!due.equals(got)) {
            wrong++;
            System.out.println(sentence + what + " answered " + got + ", due is " + due);
        }
    }

    static void end() {
        System.out.println(wrong == 0 ? "all answers are as due" : wrong + " answers are not as due");
        if (wrong != 0) {
            System.exit(1);
        }
    }

    static String outcome(Call made) {
        try {
            return Long.toString(made.answer());
        } catch (RuntimeException e) {
            return e.getClass().getName();
        }
    }
}
