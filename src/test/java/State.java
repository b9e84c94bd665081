/**
 * Reads all that an object answers of its state, and leaves it as it was. For up to 64 rows that
 * takes fewer calls than the 512 that the document promises; it is not for games of more rows, but
 * for such in which no row is hidden and few are left.
 */
final class State {
    private static final int MOST_ENTRIES = 10;

    private State() {
    }

    static String of(GuessMarks x) {
        int rows = x.rows();
        int left = x.left();
        int entries = x.entries();
        StringBuilder text = new StringBuilder();
        text.append(rows).append(" rows, places to ").append(lastPlace(x));
        int lies = x.allowLies(3);
        x.allowLies(lies);
        text.append(", lies ").append(lies).append(", left ").append(left).append('/').append(x.leftByAll());
        for (int entry = 0; entry < entries; entry++) {
            text.append(", entry ").append(x.guessOf(entry)).append(' ').append(x.markOf(entry));
        }
        for (int row = 0; row < rows; row++) {
            text.append(", row ").append(row).append(' ').append(x.liesAbout(row)).append(x.isLeft(row));
        }
        for (int place = 0; place < left; place++) {
            text.append(", left ").append(x.leftAt(place));
        }
        text.append(", hidden ").append(entries < MOST_ENTRIES ? hidden(x, rows) : hiddenOfFull(x, rows));
        return text.append(", proof ").append(x.proofSize()).toString();
    }

    /** Checks that a call that throws, made just before, has left the state as it was. */
    static void unchanged(String call, String before, GuessMarks x) {
        Check.same("the state after " + call, before, of(x));
    }

    private static int lastPlace(GuessMarks x) {
        int place = 0;
        try {
            while (place < 8) {
                x.colourAt(0, place + 1);
                place++;
            }
        } catch (IndexOutOfBoundsException e) {
            return place;
        }
        return place;
    }

    private static String hidden(GuessMarks x, int rows) {
        StringBuilder marks = new StringBuilder();
        for (int row = 0; row < rows; row++) {
            try {
                marks.append(x.guess(row)).append(' ');
                x.takeBack();
            } catch (IllegalStateException e) {
                return "none";
            }
        }
        return marks.toString();
    }

    /** A guess needs room, so the latest entry makes it and is told again. */
    private static String hiddenOfFull(GuessMarks x, int rows) {
        int guess = x.guessOf(MOST_ENTRIES - 1);
        int mark = x.markOf(MOST_ENTRIES - 1);
        x.takeBack();
        String marks = hidden(x, rows);
        x.tell(guess, mark);
        return marks;
    }
}
