/** The sentences of promises 7 to 14 that name a boundary case, each with a test of its own. */
public final class ToldBoundsTest {
    private static final int[] NO_ROWS = {-1, 9, 10, 255, 256, Integer.MIN_VALUE, Integer.MAX_VALUE};

    public static void main(String[] args) {
        hideInPlaceOfOne();
        hiddenBefore();
        hideNoRow();
        hideNotLeft();
        guessOfHidden();
        guessLatest();
        guessNoRow();
        guessNoneHidden();
        guessTenEntries();
        tellLatest();
        tellLieAboutHidden();
        tellLeft();
        tellNoRow();
        tellImpossible();
        tellTenEntries();
        tellHiddenNotLeft();
        takeBackLatest();
        takeBackKeeps();
        takeBackNoEntry();
        entriesFromNoneToTen();
        guessOfNoEntry();
        markOfNoEntry();
        liesFromNoneToTen();
        liesAboutNoRow();
        Check.end();
    }

    /** Two places, three colours, an entry; rows 4, 5, 7 and 8 are left. */
    private static GuessMarks some() {
        GuessMarks x = Games.begun(2, 3);
        x.tell(0, 0);
        return x;
    }

    private static GuessMarks hiding(int row, int entries) {
        GuessMarks x = Games.begun(2, 3);
        x.hide(row);
        for (int i = 0; i < entries; i++) {
            x.guess(i % 9);
        }
        return x;
    }

    private static void hideInPlaceOfOne() {
        Check.sentence("7: Hides a row, in place of one that was hidden");
        for (int first = 0; first < 9; first++) {
            GuessMarks x = hiding(first, 0);
            for (int second = 8; second >= 0; second--) {
                int row = second;
                x.hide(row);
                Check.due("guess(" + row + ") after hide(" + row + ")", 20, () -> x.guess(row));
                x.takeBack();
            }
        }
    }

    private static void hiddenBefore() {
        Check.sentence("7: Returns whether a row was hidden before");
        GuessMarks x = Games.begun(2, 3);
        Check.no("hide(0), the first one", () -> x.hide(0));
        Check.yes("hide(8)", () -> x.hide(8));
        Check.yes("hide(8) again", () -> x.hide(8));
        x.begin(2, 3);
        Check.no("hide(8) after begin", () -> x.hide(8));
        GuessMarks refused = some();
        Check.badState("hide(0)", () -> refused.hide(0) ? 1 : 0);
        Check.noIndex("hide(9)", () -> refused.hide(9) ? 1 : 0);
        Check.no("hide(5) after refused ones", () -> refused.hide(5));
    }

    private static void hideNoRow() {
        Check.sentence("7: Throws IndexOutOfBoundsException if there is no such row");
        Refused hidden = new Refused("row 5 hidden", () -> hiding(5, 2));
        Refused none = new Refused("no row hidden", ToldBoundsTest::some);
        for (int row : NO_ROWS) {
            hidden.noIndex("hide(" + row + ")", x -> x.hide(row));
            none.noIndex("hide(" + row + ")", x -> x.hide(row));
        }
        Games.each((places, colours, rows) -> {
            String game = Games.name(places, colours);
            Check.no(game + "hide the last row", () -> Games.begun(places, colours).hide(rows - 1));
            Check.noIndex(game + "hide one more", () -> Games.begun(places, colours).hide(rows) ? 1 : 0);
        });
    }

    private static GuessMarks withLies(int allowed, int aboutRow1) {
        GuessMarks x = Games.begun(1, 2);
        x.allowLies(allowed);
        for (int i = 0; i < aboutRow1; i++) {
            x.tell(0, 10);
        }
        return x;
    }

    private static void hideNotLeft() {
        Check.sentence("7: Throws IllegalStateException if the row is not left");
        for (int lies = 0; lies <= 3; lies++) {
            int allowed = lies;
            Check.no("hide(1), as many lies as allowed", () -> withLies(allowed, allowed).hide(1));
            Refused more = new Refused("one lie more than " + allowed, () -> withLies(allowed, allowed + 1));
            more.badState("hide(1)", x -> x.hide(1));
            Check.no("hide(0), no lies about it", () -> withLies(allowed, 10).hide(0));
        }
        Refused hidden = new Refused("row 5 hidden and alone left", () -> hiding(5, 9));
        for (int row = 0; row < 9; row++) {
            int other = row;
            if (other != 5) {
                hidden.badState("hide(" + other + ")", x -> x.hide(other));
            }
        }
    }

    private static void guessOfHidden() {
        Check.sentence("8: Returns the mark: of any guess, the hidden row too");
        for (int hidden = 0; hidden < 9; hidden++) {
            for (int guess = 0; guess < 9; guess++) {
                GuessMarks x = hiding(hidden, 9);
                int row = guess;
                int due = x.mark(row, hidden);
                Check.due("guess(" + row + ") of " + hidden, due, () -> x.guess(row));
                Check.due("markOf(9)", due, () -> x.markOf(9));
                Check.due("left()", 1, x::left);
            }
        }
    }

    private static void guessLatest() {
        Check.sentence("8: Lets the mark .. be told, as the latest entry");
        GuessMarks x = hiding(5, 0);
        for (int i = 0; i < 10; i++) {
            int entry = i;
            int row = (i + 3) % 9;
            x.guess(row);
            Check.due("entries()", entry + 1, x::entries);
            Check.due("guessOf(" + entry + ")", row, () -> x.guessOf(entry));
            Check.due("markOf(" + entry + ")", x.mark(row, 5), () -> x.markOf(entry));
            Check.due("guessOf(0)", 3, () -> x.guessOf(0));
            Check.due("liesAbout(5)", 0, () -> x.liesAbout(5));
        }
    }

    private static void guessNoRow() {
        Check.sentence("8: Throws IndexOutOfBoundsException if there is no such row");
        Refused refused = new Refused("row 5 hidden", () -> hiding(5, 2));
        for (int row : NO_ROWS) {
            refused.noIndex("guess(" + row + ")", x -> x.guess(row));
        }
        Games.each((places, colours, rows) -> {
            GuessMarks x = Games.begun(places, colours);
            x.hide(rows - 1);
            String game = Games.name(places, colours);
            Check.due(game + "guess the last row", 10 * places, () -> x.guess(rows - 1));
            Check.noIndex(game + "guess one more", () -> x.guess(rows));
        });
    }

    private static void guessNoneHidden() {
        Check.sentence("8: Throws IllegalStateException if no row is hidden");
        Refused none = new Refused("a new object", GuessMarks::new);
        none.badState("guess(0)", x -> x.guess(0));
        Refused told = new Refused("an entry told", ToldBoundsTest::some);
        told.badState("guess(5)", x -> x.guess(5));
        Refused again = new Refused("begun again", () -> {
            GuessMarks x = hiding(5, 3);
            x.begin(2, 3);
            return x;
        });
        again.badState("guess(5)", x -> x.guess(5));
    }

    private static void guessTenEntries() {
        Check.sentence("8: Throws IllegalStateException if .. there are 10 entries");
        Refused full = new Refused("10 entries", () -> hiding(5, 10));
        for (int row = 0; row < 9; row++) {
            int guess = row;
            full.badState("guess(" + guess + ")", x -> x.guess(guess));
        }
        GuessMarks x = hiding(5, 9);
        Check.due("guess(5) as the 10th entry", 20, () -> x.guess(5));
        Check.badState("guess(5) as the 11th entry", () -> x.guess(5));
        x.takeBack();
        Check.due("guess(4) in place of the 10th", 10, () -> x.guess(4));
        Check.due("guessOf(9)", 4, () -> x.guessOf(9));
    }

    private static void tellLatest() {
        Check.sentence("9: Tells a mark for a guess, as the latest entry: from the first one to the tenth");
        int[] marks = {0, 1, 2, 10, 20};
        GuessMarks x = Games.begun(2, 3);
        for (int i = 0; i < 10; i++) {
            int entry = i;
            int row = (i + 5) % 9;
            int mark = marks[i % 5];
            x.tell(row, mark);
            Check.due("entries()", entry + 1, x::entries);
            Check.due("guessOf(" + entry + ")", row, () -> x.guessOf(entry));
            Check.due("markOf(" + entry + ")", mark, () -> x.markOf(entry));
            Check.due("guessOf(0)", 5, () -> x.guessOf(0));
            Check.due("markOf(0)", 0, () -> x.markOf(0));
        }
    }

    private static void tellLieAboutHidden() {
        Check.sentence("9: If a row is hidden, it can be a lie about that row: up to as many as allowed");
        for (int lies = 1; lies <= 3; lies++) {
            GuessMarks x = Games.begun(2, 3);
            x.allowLies(lies);
            x.hide(5);
            for (int lie = 1; lie <= lies; lie++) {
                int told = lie;
                Check.due("lie " + told, 0, () -> x.tell(0, 20) - x.leftByAll());
                Check.due("liesAbout(5)", told, () -> x.liesAbout(5));
                Check.yes("isLeft(5)", () -> x.isLeft(5));
            }
            Check.badState("one lie too many", () -> x.tell(0, 20));
            Check.due("guess(5), still hidden", 20, () -> x.guess(5));
        }
    }

    private static void tellLeft() {
        Check.sentence("9: Returns how many rows are left: from all to none");
        GuessMarks all = Games.begun(8, 2);
        all.allowLies(1);
        Check.due("tell(0, 80), a lie allowed", 256, () -> all.tell(0, 80));
        Check.due("tell(0, 80), one too many", 1, () -> all.tell(0, 80));
        Check.due("tell(255, 80), a lie about row 0", 1, () -> all.tell(255, 80));
        Check.due("tell(255, 80), two lies about each row", 0, () -> all.tell(255, 80));
        Check.due("tell(255, 80), no row to lose", 0, () -> all.tell(255, 80));
        GuessMarks mark = new GuessMarks();
        Check.due("tell(0, 3), of no row", 0, () -> mark.tell(0, 3));
    }

    private static void tellNoRow() {
        Check.sentence("9: Throws IndexOutOfBoundsException if there is no such row");
        Refused some = new Refused("no row hidden", ToldBoundsTest::some);
        Refused hidden = new Refused("row 5 hidden", () -> hiding(5, 1));
        for (int row : NO_ROWS) {
            some.noIndex("tell(" + row + ", 0)", x -> x.tell(row, 0));
            hidden.noIndex("tell(" + row + ", 20)", x -> x.tell(row, 20));
        }
        Games.each((places, colours, rows) -> {
            GuessMarks x = Games.begun(places, colours);
            String game = Games.name(places, colours);
            Check.noIndex(game + "tell of one row too many", () -> x.tell(rows, 0));
            Check.due(game + "tell of the last row", 1, () -> x.tell(rows - 1, 10 * places));
        });
    }

    private static void tellImpossible() {
        Check.sentence("9: Throws IllegalArgumentException if the mark is not possible");
        Refused some = new Refused("no row hidden", ToldBoundsTest::some);
        Refused hidden = new Refused("row 5 hidden", () -> hiding(5, 1));
        int[] wrong = {-20, -10, -1, 3, 9, 11, 12, 19, 21, 22, 30, Integer.MIN_VALUE, Integer.MAX_VALUE};
        for (int mark : wrong) {
            some.badArgument("tell(4, " + mark + ")", x -> x.tell(4, mark));
            hidden.badArgument("tell(4, " + mark + ")", x -> x.tell(4, mark));
        }
    }

    private static GuessMarks telling(int entries) {
        GuessMarks x = Games.begun(2, 3);
        for (int i = 0; i < entries; i++) {
            x.tell(5, 20);
        }
        return x;
    }

    private static void tellTenEntries() {
        Check.sentence("9: Throws IllegalStateException if there are 10 entries");
        new Refused("10 entries, no row hidden", () -> telling(10)).badState("tell(5, 20)", x -> x.tell(5, 20));
        new Refused("10 entries, row 5 hidden", () -> hiding(5, 10)).badState("tell(5, 20)", x -> x.tell(5, 20));
        GuessMarks x = telling(9);
        Check.due("tell(5, 20) as the 10th entry", 1, () -> x.tell(5, 20));
        Check.badState("tell(5, 20) as the 11th entry", () -> x.tell(5, 20));
        x.takeBack();
        Check.due("tell(0, 20) in place of the 10th", 0, () -> x.tell(0, 20));
        Check.due("entries()", 10, x::entries);
    }

    private static GuessMarks lying(int lies) {
        GuessMarks x = Games.begun(2, 3);
        x.allowLies(lies);
        x.hide(5);
        for (int i = 0; i < lies; i++) {
            x.tell(0, 20);
        }
        return x;
    }

    private static void tellHiddenNotLeft() {
        Check.sentence("9: Throws IllegalStateException if .. a hidden row would not be left");
        for (int i = 0; i <= 3; i++) {
            int lies = i;
            Refused refused = new Refused(lies + " lies allowed and told", () -> lying(lies));
            refused.badState("tell(0, 20)", x -> x.tell(0, 20));
            refused.badState("tell(5, 2)", x -> x.tell(5, 2));
            GuessMarks x = lying(lies);
            Check.due("tell(5, 20), the true mark", 0, () -> x.tell(5, 20) - x.leftByAll());
            Check.due("tell(7, 2), the true mark", 0, () -> x.tell(7, 2) - x.leftByAll());
            Check.due("entries()", lies + 2, x::entries);
        }
        Check.due("tell(0, 20), no row hidden, none left", 0, () -> telling(1).tell(0, 20));
    }

    private static void takeBackLatest() {
        Check.sentence("10: Takes the latest entry back: from the tenth to the first one");
        GuessMarks x = hiding(5, 10);
        for (int i = 9; i >= 0; i--) {
            int entries = i;
            GuessMarks due = hiding(5, entries);
            Check.due("takeBack() to " + entries, due.left(), x::takeBack);
            Check.due("entries()", entries, x::entries);
            Check.noIndex("guessOf(" + entries + ")", () -> x.guessOf(entries));
            Check.same("the entry below", State.of(due), State.of(back(entries)));
        }
        Check.due("guess(5) of the row that is hidden still", 20, () -> x.guess(5));
    }

    private static GuessMarks back(int entries) {
        GuessMarks x = hiding(5, 10);
        for (int i = 10; i > entries; i--) {
            x.takeBack();
        }
        return x;
    }

    private static void takeBackKeeps() {
        Check.sentence("10: Takes the latest entry back, and nothing else: the last of them too");
        GuessMarks x = Games.begun(2, 3);
        x.allowLies(2);
        x.hide(3);
        x.tell(3, 0);
        Check.due("takeBack()", 9, x::takeBack);
        Check.due("guess(3) of the row that is hidden still", 20, () -> x.guess(3));
        Check.due("takeBack()", 9, x::takeBack);
        Check.due("allowLies(2), as many as before", 2, () -> x.allowLies(2));
        Check.yes("hide(3)", () -> x.hide(3));
    }

    private static void takeBackNoEntry() {
        Check.sentence("10: Throws IllegalStateException if there is no entry");
        new Refused("a new object", GuessMarks::new).badState("takeBack()", GuessMarks::takeBack);
        new Refused("all taken back", () -> back(0)).badState("takeBack()", GuessMarks::takeBack);
        Refused begun = new Refused("begun again", () -> {
            GuessMarks x = hiding(5, 10);
            x.begin(3, 3);
            return x;
        });
        begun.badState("takeBack()", GuessMarks::takeBack);
    }

    private static void entriesFromNoneToTen() {
        Check.sentence("11: Returns how many entries there are: from none to ten");
        GuessMarks x = Games.begun(2, 3);
        x.hide(5);
        for (int i = 0; i < 10; i++) {
            int entries = i;
            Check.due("entries()", entries, x::entries);
            if (entries % 2 == 0) {
                x.guess(0);
            } else {
                x.tell(0, 0);
            }
        }
        Check.due("entries()", 10, x::entries);
        Check.badState("guess(0)", () -> x.guess(0));
        Check.badState("tell(0, 0)", () -> x.tell(0, 0));
        Check.due("entries() after refused calls", 10, x::entries);
        x.begin(2, 3);
        Check.due("entries() after begin", 0, x::entries);
    }

    private static int[] noEntries(int count) {
        return new int[] {-1, count, count + 1, 10, 11, 31, 32, 256, Integer.MIN_VALUE, Integer.MAX_VALUE};
    }

    private static void guessOfNoEntry() {
        Check.sentence("12: Throws IndexOutOfBoundsException if there is no such entry");
        int[] counts = {0, 1, 9, 10};
        for (int count : counts) {
            Refused refused = new Refused(count + " entries", () -> hiding(5, count));
            for (int entry : noEntries(count)) {
                refused.noIndex("guessOf(" + entry + ")", x -> x.guessOf(entry));
            }
            GuessMarks x = hiding(5, count);
            for (int i = 0; i < count; i++) {
                int entry = i;
                Check.due("guessOf(" + entry + ")", entry % 9, () -> x.guessOf(entry));
            }
        }
    }

    private static void markOfNoEntry() {
        Check.sentence("13: Throws IndexOutOfBoundsException if there is no such entry");
        int[] counts = {0, 1, 9, 10};
        for (int count : counts) {
            Refused refused = new Refused(count + " entries", () -> hiding(5, count));
            for (int entry : noEntries(count)) {
                refused.noIndex("markOf(" + entry + ")", x -> x.markOf(entry));
            }
            GuessMarks x = hiding(5, count);
            for (int i = 0; i < count; i++) {
                int entry = i;
                Check.due("markOf(" + entry + ")", x.mark(entry % 9, 5), () -> x.markOf(entry));
            }
        }
    }

    private static void liesFromNoneToTen() {
        Check.sentence("14: Returns how many entries are lies about a row: from none to ten");
        GuessMarks x = Games.begun(1, 2);
        for (int i = 0; i < 10; i++) {
            int lies = i;
            Check.due("liesAbout(1)", lies, () -> x.liesAbout(1));
            Check.due("liesAbout(0)", 0, () -> x.liesAbout(0));
            x.tell(0, 10);
        }
        for (int i = 10; i > 0; i--) {
            int lies = i;
            Check.due("liesAbout(1)", lies, () -> x.liesAbout(1));
            Check.due("liesAbout(0)", 0, () -> x.liesAbout(0));
            x.takeBack();
        }
        Check.due("liesAbout(1), all taken back", 0, () -> x.liesAbout(1));
        GuessMarks last = Games.begun(8, 2);
        last.tell(0, 80);
        Check.due("liesAbout(255)", 1, () -> last.liesAbout(255));
    }

    private static void liesAboutNoRow() {
        Check.sentence("14: Throws IndexOutOfBoundsException if there is no such row");
        Refused refused = new Refused("some told", ToldBoundsTest::some);
        for (int row : NO_ROWS) {
            refused.noIndex("liesAbout(" + row + ")", x -> x.liesAbout(row));
        }
        Games.each((places, colours, rows) -> {
            GuessMarks x = Games.begun(places, colours);
            String game = Games.name(places, colours);
            Check.due(game + "liesAbout the last row", 0, () -> x.liesAbout(rows - 1));
            Check.noIndex(game + "liesAbout one more", () -> x.liesAbout(rows));
        });
    }
}
