/** Promises 7 to 14. */
public final class ToldTest {
    private static final int[] NO_ROWS = {-1, 9, 255, 256, Integer.MIN_VALUE, Integer.MAX_VALUE};

    public static void main(String[] args) {
        hide();
        guess();
        guessWrong();
        tell();
        tellImpossible();
        tellAboutHidden();
        tellTooMuch();
        takeBack();
        entriesAndTheirParts();
        liesAbout();
        Check.end();
    }

    /** Two places, three colours: row 5 is 1 2. */
    private static GuessMarks game() {
        GuessMarks x = new GuessMarks();
        x.begin(2, 3);
        return x;
    }

    private static void hide() {
        GuessMarks x = game();
        Check.no("7: hide(0)", () -> x.hide(0));
        Check.yes("7: hide(5)", () -> x.hide(5));
        Check.yes("7: hide(5) again", () -> x.hide(5));
        Check.due("7: guess(5), the new row is hidden", 20, () -> x.guess(5));
        String state = State.of(x);
        Check.badState("7: hide(0), not left", () -> x.hide(0) ? 1 : 0);
        State.unchanged("hide(0)", state, x);
        for (int row : NO_ROWS) {
            Check.noIndex("7: hide(" + row + ")", () -> x.hide(row) ? 1 : 0);
            State.unchanged("hide", state, x);
        }
        Check.yes("7: hide(5), the one row that is left", () -> x.hide(5));
        x.allowLies(1);
        Check.yes("7: hide(0), left by a lie", () -> x.hide(0));
        Check.due("7: guess(0)", 20, () -> x.guess(0));
        GuessMarks y = game();
        y.tell(0, 20);
        Check.badState("7: hide(1), not left, none before", () -> y.hide(1) ? 1 : 0);
        Check.badState("7: guess(0), none is hidden", () -> y.guess(0));
    }

    private static void guess() {
        GuessMarks x = game();
        x.hide(5);
        Check.due("8: guess(7), 21 for 12", 2, () -> x.guess(7));
        Check.due("8: left()", 1, x::left);
        Check.due("8: guess(4), 11 for 12", 10, () -> x.guess(4));
        Check.due("8: guess(0)", 0, () -> x.guess(0));
        Check.due("8: guess(3), 10 for 12", 10, () -> x.guess(3));
        Check.due("8: entries()", 4, x::entries);
        Check.due("8: guessOf(3)", 3, () -> x.guessOf(3));
        Check.due("8: markOf(3)", 10, () -> x.markOf(3));
        Check.due("8: markOf(0)", 2, () -> x.markOf(0));
        Check.yes("8: isLeft(5)", () -> x.isLeft(5));
    }

    private static void guessWrong() {
        GuessMarks x = game();
        String state = State.of(x);
        for (int row : NO_ROWS) {
            Check.noIndex("8: guess(" + row + "), and none is hidden", () -> x.guess(row));
        }
        Check.badState("8: guess(0), none is hidden", () -> x.guess(0));
        State.unchanged("guess(0)", state, x);
        x.hide(5);
        for (int i = 0; i < 10; i++) {
            Check.due("8: guess(5)", 20, () -> x.guess(5));
        }
        String full = State.of(x);
        Check.badState("8: guess(5) for the 11th entry", () -> x.guess(5));
        State.unchanged("guess(5)", full, x);
        Check.noIndex("8: guess(9) for the 11th entry", () -> x.guess(9));
        x.takeBack();
        Check.due("8: guess(4) for the 10th entry", 10, () -> x.guess(4));
        Check.due("8: entries()", 10, x::entries);
    }

    private static void tell() {
        GuessMarks x = game();
        Check.due("9: tell(0, 10)", 4, () -> x.tell(0, 10));
        Check.due("9: tell(1, 10)", 1, () -> x.tell(1, 10));
        Check.due("9: tell(1, 10) again", 1, () -> x.tell(1, 10));
        Check.due("9: tell(2, 20)", 1, () -> x.tell(2, 20));
        Check.due("9: tell(2, 0)", 0, () -> x.tell(2, 0));
        Check.due("9: entries()", 5, x::entries);
        Check.due("9: guessOf(4)", 2, () -> x.guessOf(4));
        Check.due("9: markOf(4)", 0, () -> x.markOf(4));
        GuessMarks y = game();
        y.allowLies(1);
        Check.due("9: tell(0, 20), a lie allowed", 9, () -> y.tell(0, 20));
        Check.due("9: tell(0, 0), a lie allowed", 5, () -> y.tell(0, 0));
    }

    private static void tellImpossible() {
        GuessMarks x = new GuessMarks();
        int[] wrong = {
            -1, -10, -11, 4, 9, 13, 19, 21, 22, 29, 31, 40, 300, Integer.MIN_VALUE, Integer.MAX_VALUE
        };
        String state = State.of(x);
        for (int mark : wrong) {
            Check.badArgument("9: tell(0, " + mark + ")", () -> x.tell(0, mark));
            Check.noIndex("9: tell(64, " + mark + "), the row comes first", () -> x.tell(64, mark));
        }
        State.unchanged("tell", state, x);
        int[] right = {0, 1, 2, 3, 10, 11, 12, 20, 30};
        for (int mark : right) {
            Check.due("9: left() after tell(0, " + mark + ")", 0, () -> x.tell(0, mark) - x.leftByAll());
        }
        x.begin(1, 2);
        Check.badArgument("9: tell(0, 1) with one place", () -> x.tell(0, 1));
        Check.badArgument("9: tell(0, 2) with one place", () -> x.tell(0, 2));
        Check.badArgument("9: tell(0, 11) with one place", () -> x.tell(0, 11));
        Check.due("9: tell(0, 10) with one place", 1, () -> x.tell(0, 10));
        x.begin(8, 2);
        int[] wrongOfEight = {71, 81, 9, 18, 72, 90};
        for (int mark : wrongOfEight) {
            Check.badArgument("9: tell(0, " + mark + ") with eight places", () -> x.tell(0, mark));
        }
        Check.due("9: tell(15, 62) with eight places", 16, () -> x.tell(15, 62));
        Check.due("9: tell(15, 8) with eight places", 0, () -> x.tell(15, 8));
        Check.due("9: tell(15, 80) with eight places", 0, () -> x.tell(15, 80));
    }

    private static void tellAboutHidden() {
        GuessMarks x = game();
        x.hide(5);
        String state = State.of(x);
        Check.badState("9: tell(0, 10), a lie about the hidden row", () -> x.tell(0, 10));
        State.unchanged("tell(0, 10)", state, x);
        Check.badArgument("9: tell(0, 11), the mark comes before", () -> x.tell(0, 11));
        Check.noIndex("9: tell(9, 11), the row comes first", () -> x.tell(9, 11));
        Check.due("9: tell(0, 0), true", 4, () -> x.tell(0, 0));
        x.allowLies(1);
        Check.due("9: tell(0, 20), the lie that is allowed", 5, () -> x.tell(0, 20));
        String withLie = State.of(x);
        Check.badState("9: tell(0, 20), one lie too many", () -> x.tell(0, 20));
        State.unchanged("tell(0, 20)", withLie, x);
        Check.due("9: tell(5, 20), true", 1, () -> x.tell(5, 20));
        Check.yes("9: isLeft(5)", () -> x.isLeft(5));
        Check.due("9: tell(5, 20), true with all lies told", 1, () -> x.tell(5, 20));
    }

    private static void tellTooMuch() {
        GuessMarks x = game();
        for (int i = 0; i < 10; i++) {
            Check.due("9: tell(5, 20)", 1, () -> x.tell(5, 20));
        }
        String full = State.of(x);
        Check.badState("9: tell(5, 20) for the 11th entry", () -> x.tell(5, 20));
        Check.badArgument("9: tell(5, 11) for the 11th entry", () -> x.tell(5, 11));
        Check.noIndex("9: tell(-1, 11) for the 11th entry", () -> x.tell(-1, 11));
        State.unchanged("tell", full, x);
        x.takeBack();
        Check.due("9: tell(5, 20) for the 10th entry", 1, () -> x.tell(5, 20));
    }

    private static void takeBack() {
        GuessMarks x = game();
        Check.badState("10: takeBack()", x::takeBack);
        String none = State.of(x);
        x.tell(0, 10);
        String one = State.of(x);
        x.tell(1, 10);
        String two = State.of(x);
        x.tell(0, 20);
        Check.due("10: takeBack() of the third", 1, x::takeBack);
        Check.same("10: two entries", two, State.of(x));
        Check.due("10: takeBack() of the second", 4, x::takeBack);
        Check.same("10: one entry", one, State.of(x));
        Check.due("10: takeBack() of the first", 9, x::takeBack);
        Check.same("10: no entry", none, State.of(x));
        Check.badState("10: takeBack() with no entry", x::takeBack);
        Check.same("10: after the throw", none, State.of(x));
        x.allowLies(2);
        x.hide(3);
        x.guess(0);
        x.tell(0, 20);
        Check.due("10: takeBack() keeps lies", 9, x::takeBack);
        Check.due("10: allowLies(2) answers what is kept", 2, () -> x.allowLies(2));
        Check.yes("10: hide(3), the hidden row is kept", () -> x.hide(3));
    }

    private static void entriesAndTheirParts() {
        GuessMarks x = game();
        Check.due("11: entries()", 0, x::entries);
        Check.noIndex("12: guessOf(0)", () -> x.guessOf(0));
        Check.noIndex("13: markOf(0)", () -> x.markOf(0));
        for (int i = 0; i < 9; i++) {
            int row = i;
            x.tell(row, 10);
            Check.due("11: entries()", row + 1, x::entries);
        }
        x.tell(7, 2);
        Check.due("11: entries()", 10, x::entries);
        for (int i = 0; i < 9; i++) {
            int entry = i;
            Check.due("12: guessOf(" + entry + ")", entry, () -> x.guessOf(entry));
            Check.due("13: markOf(" + entry + ")", 10, () -> x.markOf(entry));
        }
        Check.due("12: guessOf(9)", 7, () -> x.guessOf(9));
        Check.due("13: markOf(9)", 2, () -> x.markOf(9));
        int[] wrong = {-1, 10, 11, Integer.MIN_VALUE, Integer.MAX_VALUE};
        for (int entry : wrong) {
            Check.noIndex("12: guessOf(" + entry + ")", () -> x.guessOf(entry));
            Check.noIndex("13: markOf(" + entry + ")", () -> x.markOf(entry));
        }
        x.takeBack();
        Check.due("11: entries()", 9, x::entries);
        Check.noIndex("12: guessOf(9), taken back", () -> x.guessOf(9));
        Check.noIndex("13: markOf(9), taken back", () -> x.markOf(9));
    }

    private static void liesAbout() {
        GuessMarks x = game();
        Check.due("14: liesAbout(0)", 0, () -> x.liesAbout(0));
        x.tell(0, 20);
        x.tell(0, 0);
        x.tell(5, 20);
        int[] due = {2, 3, 3, 3, 2, 1, 3, 2, 2};
        for (int row = 0; row < 9; row++) {
            int about = row;
            Check.due("14: liesAbout(" + about + ")", due[about], () -> x.liesAbout(about));
        }
        x.allowLies(3);
        Check.due("14: liesAbout(1), whatever is allowed", 3, () -> x.liesAbout(1));
        x.takeBack();
        Check.due("14: liesAbout(5), one taken back", 1, () -> x.liesAbout(5));
        Check.due("14: liesAbout(8), one taken back", 1, () -> x.liesAbout(8));
        for (int row : NO_ROWS) {
            Check.noIndex("14: liesAbout(" + row + ")", () -> x.liesAbout(row));
        }
        for (int i = 0; i < 8; i++) {
            x.tell(5, 20);
        }
        Check.due("14: liesAbout(1) with ten entries", 10, () -> x.liesAbout(1));
        Check.due("14: liesAbout(5) with ten entries", 1, () -> x.liesAbout(5));
    }
}
