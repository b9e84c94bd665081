/** The sentences of promises 15 to 18 that name a boundary case, each with a test of its own. */
public final class LeftBoundsTest {
    private static final int LOW = Integer.MIN_VALUE;
    private static final int HIGH = Integer.MAX_VALUE;

    public static void main(String[] args) {
        leftWithEachEntry();
        leftWithEachLie();
        leftFromAllToNone();
        leftByAllTheSame();
        isLeftNoRow();
        isLeftOfEach();
        leftAtRising();
        leftAtFirst();
        leftAtNotSoMany();
        Check.end();
    }

    /** Counted by isLeft, as nothing keeps count of that. */
    private static int count(GuessMarks x, int rows) {
        int count = 0;
        for (int row = 0; row < rows; row++) {
            count += x.isLeft(row) ? 1 : 0;
        }
        return count;
    }

    private static void leftWithEachEntry() {
        Check.sentence("15: Returns how many rows are left, kept up with each entry");
        GuessMarks x = Games.begun(2, 4);
        x.allowLies(1);
        x.hide(6);
        for (int i = 0; i < 10; i++) {
            if (i % 3 == 2) {
                x.tell(i, x.mark(i, 6));
            } else {
                x.guess(i + 5);
            }
            Check.due("left() with " + (i + 1) + " entries", count(x, 16), x::left);
        }
        for (int i = 9; i >= 0; i--) {
            x.takeBack();
            Check.due("left() taken back to " + i, count(x, 16), x::left);
        }
        Check.due("left() with all taken back", 16, x::left);
    }

    private static void leftWithEachLie() {
        Check.sentence("15: Returns how many rows are left, as many lies as are allowed by then");
        GuessMarks x = Games.begun(1, 6);
        for (int i = 0; i < 10; i++) {
            x.tell(i < 4 ? 0 : i < 7 ? 1 : i < 9 ? 2 : 3, 0);
        }
        int[] due = {2, 3, 4, 5};
        for (int i = 3; i >= 0; i--) {
            int lies = i;
            x.allowLies(lies);
            Check.due("left(), " + lies + " lies allowed", due[lies], x::left);
            Check.due("leftByAll(), " + lies + " lies allowed", due[lies], x::leftByAll);
        }
        Check.badArgument("allowLies(4)", () -> x.allowLies(4));
        Check.due("left() after a refused call", 2, x::left);
    }

    private static void leftFromAllToNone() {
        Check.sentence("15: Returns how many rows are left: from all to none");
        Games.each((places, colours, rows) -> {
            GuessMarks x = Games.begun(places, colours);
            String game = Games.name(places, colours);
            Check.due(game + "left() at first", rows, x::left);
            x.tell(rows - 1, 10 * places);
            Check.due(game + "left(), the last row", 1, x::left);
            x.tell(0, 10 * places);
            Check.due(game + "left(), none", 0, x::left);
            x.tell(0, 10 * places);
            Check.due(game + "left(), none again", 0, x::left);
        });
    }

    private static void leftByAllTheSame() {
        Check.sentence("16: Returns the same, by going over all rows and all entries");
        Games.each((places, colours, rows) -> {
            GuessMarks x = Games.begun(places, colours);
            String game = Games.name(places, colours);
            Check.due(game + "leftByAll() at first", rows, x::leftByAll);
            x.allowLies(1);
            for (int i = 0; i < 10; i++) {
                int guess = (i * 7) % rows;
                x.tell(guess, x.mark(guess, rows - 1 - i % 2));
                Check.due(game + "leftByAll() with " + (i + 1) + " entries", x.left(), x::leftByAll);
            }
            for (int i = 0; i < 10; i++) {
                x.takeBack();
                Check.due(game + "leftByAll() with " + (9 - i) + " entries", x.left(), x::leftByAll);
            }
            x.tell(0, 10 * places);
            x.tell(rows - 1, 10 * places);
            x.allowLies(0);
            Check.due(game + "leftByAll(), none left", 0, x::leftByAll);
        });
    }

    private static GuessMarks some() {
        GuessMarks x = Games.begun(2, 3);
        x.tell(0, 0);
        return x;
    }

    private static void isLeftNoRow() {
        Check.sentence("17: Throws IndexOutOfBoundsException if there is no such row");
        Refused refused = new Refused("some left", LeftBoundsTest::some);
        int[] wrong = {-1, 9, 10, 255, 256, LOW, HIGH};
        for (int row : wrong) {
            refused.noIndex("isLeft(" + row + ")", x -> x.isLeft(row));
        }
        Games.each((places, colours, rows) -> {
            GuessMarks x = Games.begun(places, colours);
            String game = Games.name(places, colours);
            Check.yes(game + "isLeft of the last row", () -> x.isLeft(rows - 1));
            Check.noIndex(game + "isLeft of one more", () -> x.isLeft(rows) ? 1 : 0);
        });
    }

    private static void isLeftOfEach() {
        Check.sentence("17: Tells whether a row is left: all, one or none of them");
        Games.each((places, colours, rows) -> {
            GuessMarks one = Games.begun(places, colours);
            one.tell(rows - 1, 10 * places);
            GuessMarks none = Games.begun(places, colours);
            none.tell(0, 10 * places);
            none.tell(rows - 1, 10 * places);
            String game = Games.name(places, colours);
            Check.due(game + "all", rows, () -> count(Games.begun(places, colours), rows));
            Check.due(game + "one", 1, () -> count(one, rows));
            Check.yes(game + "the one", () -> one.isLeft(rows - 1));
            Check.due(game + "none", 0, () -> count(none, rows));
        });
    }

    private static void leftAtRising() {
        Check.sentence("18: Returns a row that is left, by rising numbers");
        for (int i = 0; i < 9; i++) {
            int guess = i;
            GuessMarks x = Games.begun(2, 3);
            x.tell(guess, 10);
            int place = 0;
            for (int row = 0; row < 9; row++) {
                int due = row;
                int at = place;
                if (x.isLeft(row)) {
                    Check.due("leftAt(" + at + ") after tell(" + guess + ", 10)", due, () -> x.leftAt(at));
                    place++;
                }
            }
            int end = place;
            Check.noIndex("leftAt(" + end + ") after tell(" + guess + ", 10)", () -> x.leftAt(end));
        }
    }

    private static void leftAtFirst() {
        Check.sentence("18: place: 0 for the first one");
        Games.each((places, colours, rows) -> {
            GuessMarks x = Games.begun(places, colours);
            String game = Games.name(places, colours);
            Check.due(game + "leftAt(0), all left", 0, () -> x.leftAt(0));
            Check.due(game + "leftAt the end, all left", rows - 1, () -> x.leftAt(rows - 1));
            x.tell(rows - 1, 10 * places);
            Check.due(game + "leftAt(0), the last row left", rows - 1, () -> x.leftAt(0));
        });
    }

    private static GuessMarks leaving(int rows) {
        GuessMarks x = Games.begun(1, 6);
        for (int row = rows; row < 6; row++) {
            x.tell(row, 0);
        }
        return x;
    }

    private static void leftAtNotSoMany() {
        Check.sentence("18: Throws IndexOutOfBoundsException if there are not so many");
        for (int left = 0; left <= 6; left++) {
            int rows = left;
            Refused refused = new Refused(rows + " left", () -> leaving(rows));
            int[] wrong = {-1, rows, rows + 1, 6, 255, 256, LOW, HIGH};
            for (int place : wrong) {
                refused.noIndex("leftAt(" + place + ")", x -> x.leftAt(place));
            }
        }
        Games.each((places, colours, rows) -> {
            GuessMarks x = Games.begun(places, colours);
            Check.noIndex(Games.name(places, colours) + "leftAt one more than all", () -> x.leftAt(rows));
        });
    }
}
