/** Reads all that an object answers of its state, and leaves it as it was. */
final class State {
    private State() {
    }

    static String of(GuessMarks x) {
        StringBuilder text = new StringBuilder();
        text.append(x.rows()).append(" rows, places to ").append(lastPlace(x));
        int lies = x.allowLies(3);
        x.allowLies(lies);
        text.append(", lies ").append(lies).append(", left ").append(x.left()).append('/').append(x.leftByAll());
        for (int entry = 0; entry < x.entries(); entry++) {
            text.append(", entry ").append(x.guessOf(entry)).append(' ').append(x.markOf(entry));
        }
        for (int row = 0; row < x.rows(); row++) {
            text.append(", row ").append(row).append(' ').append(x.liesAbout(row)).append(x.isLeft(row));
        }
        for (int place = 0; place < x.left(); place++) {
            text.append(", left ").append(x.leftAt(place));
        }
        return text.append(", hidden ").append(hidden(x)).append(", proof ").append(x.proofSize()).toString();
    }

    /** Checks that a call that throws, made just before, has left the state as it was. */
    static void unchanged(String call, String before, GuessMarks x) {
        Check.same("the state after " + call, before, of(x));
    }

    private static int lastPlace(GuessMarks x) {
        int place = 0;
        try {
            while (place < 8) {
                x.colourAt(0, place + 1);
                place++;
            }
        } catch (IndexOutOfBoundsException e) {
            return place;
        }
        return place;
    }

    private static String hidden(GuessMarks x) {
        StringBuilder marks = new StringBuilder();
        for (int row = 0; row < x.rows(); row++) {
            try {
                marks.append(x.guess(row)).append(' ');
                x.takeBack();
            } catch (IllegalStateException e) {
                return "unknown";
            }
        }
        return marks.toString();
    }
}
